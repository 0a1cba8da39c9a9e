/-! a whole day, on both sides -/
theorem RD.row {qh nv B B' c sh : Nat} {D : Nat → Nat → Int32} {N fc fm : Nat → Int32} (hnv : nv ≤ 8) (h : RD qh nv B D N) (hc : c ≤ 9) (hr : ∀ k, k < c → fc k = fm k ∧ ∃ v, v < nv ∧ fm k = nI v) (hs : sh ≤ 16 * B') (hB : B ≤ B') : RD qh nv B' (uK (rD D fc c) 12 (upd (D 12) 0 (nI sh))) (upd (rN N fm c) 7 (nI sh)) := by
  obtain ⟨dy, wt, fa, em, sh0, st, k1, k2, k3, k4, k5, k6, ⟨b1, c1⟩, ⟨b2, c2⟩, ⟨b3, c3⟩, ⟨b4, c4⟩, ⟨b5, c5⟩, ⟨b6, c6⟩, ⟨b7, b8, b9, b10, b11⟩, b12, b13, b14, b15⟩ := h
  refine ⟨dy, c, fa, em, sh, st, by omega, hc, k3, k4, hs, k6, ?_, ?_, ?_, ?_, ?_, ?_, ?_, ?_, ?_, ?_, ?_⟩
  · simp (disch := omega) only [uK_s, uK_n, upd_s, upd_n, rD_n, rN_n, b1, c1, and_self]
  · simp (disch := omega) only [uK_s, uK_n, upd_s, upd_n, rD_5, rN_9, and_self]
  · simp (disch := omega) only [uK_s, uK_n, upd_s, upd_n, rD_n, rN_n, b3, c3, and_self]
  · simp (disch := omega) only [uK_s, uK_n, upd_s, upd_n, rD_n, rN_n, b4, c4, and_self]
  · simp (disch := omega) only [uK_s, uK_n, upd_s, upd_n, rD_n, rN_n, and_self]
  · simp (disch := omega) only [uK_s, uK_n, upd_s, upd_n, rD_n, rN_n, b6, c6, and_self]
  · simp (disch := omega) only [uK_s, uK_n, upd_s, upd_n, rD_n, rN_n]
    exact ⟨b7, b8, b9, b10, b11⟩
  · intro v hv
    simp (disch := omega) only [uK_s, uK_n, upd_s, upd_n, rD_n, rN_n]
    exact b12 v hv
  · intro v hv
    simp (disch := omega) only [uK_s, uK_n, upd_s, upd_n, rD_n, rN_n]
    exact b13 v hv
  · intro k hk
    simp (disch := omega) only [uK_s, uK_n, upd_s, upd_n, rD_2, rN_r]
    exact hr k hk
  · intro q hq hq2
    simp (disch := omega) only [uK_s, uK_n, upd_s, upd_n, rD_n, rN_n]
    exact b15 q hq hq2
theorem RD.feet {qh nv B : Nat} {D : Nat → Nat → Int32} {N : Nat → Int32} (hnv : nv ≤ 8) (h : RD qh nv B D N) (x : Int32) : RD qh nv B (uK D 11 (upd (D 11) 0 (D 11 0 + x))) (upd N 6 (N 6 + x)) := by
  obtain ⟨dy, wt, fa, em, sh0, st, k1, k2, k3, k4, k5, k6, ⟨b1, c1⟩, ⟨b2, c2⟩, ⟨b3, c3⟩, ⟨b4, c4⟩, ⟨b5, c5⟩, ⟨b6, c6⟩, ⟨b7, b8, b9, b10, b11⟩, b12, b13, b14, b15⟩ := h
  refine ⟨dy, wt, fa, em, sh0, st, k1, k2, k3, k4, k5, k6, ?_, ?_, ?_, ?_, ?_, ?_, ?_, ?_, ?_, ?_, ?_⟩
  · simp (disch := omega) only [uK_n, upd_n, b1, c1, and_self]
  · simp (disch := omega) only [uK_n, upd_n, b2, c2, and_self]
  · simp (disch := omega) only [uK_n, upd_n, b3, c3, and_self]
  · simp (disch := omega) only [uK_n, upd_n, b4, c4, and_self]
  · simp (disch := omega) only [uK_n, upd_n, b5, c5, and_self]
  · simp (disch := omega) only [uK_n, upd_n, b6, c6, and_self]
  · simp (disch := omega) only [uK_s, uK_n, upd_s, upd_n]
    exact ⟨b7, b8, b9, b10, by rw [b11]⟩
  · intro v hv
    simp (disch := omega) only [uK_n, upd_n]
    exact b12 v hv
  · intro v hv
    simp (disch := omega) only [uK_n, upd_n]
    exact b13 v hv
  · intro k hk
    simp (disch := omega) only [uK_n, upd_n]
    exact b14 k hk
  · intro q hq hq2
    simp (disch := omega) only [uK_n, upd_n]
    exact b15 q hq hq2
/-- counters that only grow -/
def Mon (N N' : Nat → Int32) : Prop := (∀ k, 103 ≤ k → N' k = N k) ∧ ∃ a b c a' b' c' : Nat, (a ≤ a' ∧ b ≤ b' ∧ c ≤ c') ∧ (a' < 100000000 ∧ b' < 100000000 ∧ c' < 100000000) ∧ (N 4 = nI a ∧ N 5 = nI b ∧ N 7 = nI c) ∧ (N' 4 = nI a' ∧ N' 5 = nI b' ∧ N' 7 = nI c')
theorem nE_4 (N : Nat → Int32) (dy em fa : Nat) (run who x : Int32) : nE N dy em fa run who x 4 = nI fa := by unfold nE; simp (disch := omega) only [upd_s, upd_n]
theorem nE_5 (N : Nat → Int32) (dy em fa : Nat) (run who x : Int32) : nE N dy em fa run who x 5 = nI em := by unfold nE; simp (disch := omega) only [upd_s, upd_n]
theorem nE_7 (N : Nat → Int32) (dy em fa : Nat) (run who x : Int32) : nE N dy em fa run who x 7 = N 7 := by unfold nE; simp (disch := omega) only [upd_s, upd_n]
section Rock
variable {nv K Y I F Fo : Nat} {ro pe fe fs fg : Nat → Nat} {G : Nat → Nat → Int32} {GL : Nat → Nat → Int64} {M : Nat → Nat → Int32}
theorem p16_loop {i S dy : Nat} {N : Nat → Int32} {w : Mem} (hnv : nv ≤ 8) (h3 : w.1 32 3 0 = nI nv) (hro : ∀ v, v < nv → ro v ≤ 9 ∧ w.1 32 4 v = nI (ro v)) (hS : S < 256) :
    ∀ (k v n : Nat), v + k = nv → k < n → f8_pass_16 (nI i) n (nI dy) (nI S) (nI v) (sA w 32 11 (upd N 6 (N 6 + nI (ftn ro S v)))) = f8_pass_63 (nI i) (nI dy) (nI S) (sA w 32 11 (upd N 6 (N 6 + nI (ftn ro S nv)))) := by
  intro k
  induction k with
  | zero =>
    intro v n hv hn
    obtain ⟨n, rfl⟩ : ∃ m, n = m + 1 := ⟨n - 1, by omega⟩
    rw [f8_pass_16]
    obtain rfl : v = nv := by omega
    simp (disch := omega) only [bE, bO, bV, bK, nI_lit, nI_add, lt_T, lt_F, le_T, le_F, eq_T, eq_F, ltm_T, ltm_F, lem_T, lem_F, eqm_F, meq_F, cl_nI, nle_T, nle_F, nlt_T, nlt_F, ↓reduceIte, or_true, true_or, or_false, false_or, and_true, true_and, and_false, false_and, not_true_eq_false, not_false_eq_true, or_self, and_self, true_implies, ite_self, sI_A, kx_sA, ky_sA, ob_sA, sA_2, upd_s, upd_n, upd_upd, h3]
  | succ k ih =>
    intro v n hv hn
    obtain ⟨n, rfl⟩ : ∃ m, n = m + 1 := ⟨n - 1, by omega⟩
    have i1 := ih (v + 1) n (by omega) (by omega)
    rw [f8_pass_16]
    have b1 := hasm_ok (w := sA w 32 11 (upd N 6 (N 6 + nI (ftn ro S v)))) (v := v) hS (by omega)
    have r := hro v (by omega)
    cases h5 : tb S v with
    | true =>
      rw [ftn_T h5] at i1
      simp only [h5, if_true] at b1
      simp (disch := omega) only [bE, bO, bV, bK, nI_lit, nI_add, lt_T, lt_F, le_T, le_F, eq_T, eq_F, ltm_T, ltm_F, lem_T, lem_F, eqm_F, meq_F, cl_nI, nle_T, nle_F, nlt_T, nlt_F, ↓reduceIte, or_true, true_or, or_false, false_or, and_true, true_and, and_false, false_and, not_true_eq_false, not_false_eq_true, or_self, and_self, true_implies, ite_self, sI_A, kx_sA, ky_sA, ob_sA, sA_2, upd_s, upd_n, upd_upd, h3, b1, r.2, pk_mul, Int32.add_assoc]
      exact i1
    | false =>
      rw [ftn_F h5] at i1
      simp only [h5, Bool.false_eq_true, if_false] at b1
      simp (disch := omega) only [bE, bO, bV, bK, nI_lit, nI_add, lt_T, lt_F, le_T, le_F, eq_T, eq_F, ltm_T, ltm_F, lem_T, lem_F, eqm_F, meq_F, cl_nI, nle_T, nle_F, nlt_T, nlt_F, ↓reduceIte, or_true, true_or, or_false, false_or, and_true, true_and, and_false, false_and, not_true_eq_false, not_false_eq_true, or_self, and_self, true_implies, ite_self, sI_A, kx_sA, ky_sA, ob_sA, sA_2, upd_s, upd_n, upd_upd, h3, b1, Int32.add_assoc, Nat.add_zero]
      exact i1
end Rock
/-- the end of a day that gave nothing because nobody came -/
theorem tailE {qh nv B B' K dy : Nat} {D : Nat → Nat → Int32} {N : Nat → Int32} (hnv : nv ≤ 8) (h : RD qh nv B D N) (hdy : N 0 = nI dy) (hB : B < 1000000) (hd : dy + 1 ≤ B') (hBB : B ≤ B') (hB3 : B' < 1000001) :
    ∃ D' N', RD qh nv B' D' N' ∧ Mon N N' ∧ (∀ w d g i, g ≠ d → w.1 g 1 0 = nI K → bndV (f1_close d (-1) 0 (sO w d D)) (fun w1 => f1_live_82 d g i w1) = some (sO w d D')) ∧ (∀ w i, w.1 32 0 0 = nI K → f8_pass_112 i (nI dy) (-1) 0 (sA w 32 11 N) = some (sA w 32 11 N')) := by
  have h0 := h
  obtain ⟨dy', wt, fa, em, sh, st, k1, k2, k3, k4, k5, k6, ⟨b1, c1⟩, ⟨b2, c2⟩, ⟨b3, c3⟩, ⟨b4, c4⟩, ⟨b5, c5⟩, ⟨b6, c6⟩, ⟨b7, b8, b9, b10, b11⟩, b12⟩ := h
  obtain rfl : dy' = dy := (nI_eq (by omega) (by omega)).mp (c1.symm.trans hdy)
  refine ⟨_, _, RD.none hnv h0 (N 1 + nI 1) (-1) (dn (N 1 + nI 1) K) hdy hB hd hBB hB3 (em := em + 1) (fa := fa) (by omega) (by omega) xx, ?_, fun w d g i hg hw => ?_, fun w i hw => ?_⟩
  · exact ⟨fun k hk => by unfold nE; simp (disch := omega) only [upd_n], fa, em, sh, fa, em + 1, sh, ⟨by omega, by omega, by omega⟩, ⟨by omega, by omega, by omega⟩, ⟨c3, c4, c5⟩, ⟨nE_4 .., nE_5 .., (nE_7 ..).trans c5⟩⟩
  · rw [← b7]
    exact tc_E hg hw b1 (by omega) b4 b3
  · exact tm_E hw hdy (by omega) c4 c3
/-- the end of a day that gave nothing because too many came -/
theorem tailF {qh nv B B' K dy : Nat} {D : Nat → Nat → Int32} {N : Nat → Int32} (hnv : nv ≤ 8) (h : RD qh nv B D N) (hdy : N 0 = nI dy) (hB : B < 1000000) (hd : dy + 1 ≤ B') (hBB : B ≤ B') (hB3 : B' < 1000001) :
    ∃ D' N', RD qh nv B' D' N' ∧ Mon N N' ∧ (∀ w d g i, g ≠ d → w.1 g 1 0 = nI K → bndV (f1_close d (-1) 2 (sO w d D)) (fun w1 => f1_live_82 d g i w1) = some (sO w d D')) ∧ (∀ w i, w.1 32 0 0 = nI K → f8_pass_112 i (nI dy) (-1) 1 (sA w 32 11 N) = some (sA w 32 11 N')) := by
  have h0 := h
  obtain ⟨dy', wt, fa, em, sh, st, k1, k2, k3, k4, k5, k6, ⟨b1, c1⟩, ⟨b2, c2⟩, ⟨b3, c3⟩, ⟨b4, c4⟩, ⟨b5, c5⟩, ⟨b6, c6⟩, ⟨b7, b8, b9, b10, b11⟩, b12⟩ := h
  obtain rfl : dy' = dy := (nI_eq (by omega) (by omega)).mp (c1.symm.trans hdy)
  refine ⟨_, _, RD.none hnv h0 (nI 0) (-1) (dn (nI 0) K) hdy hB hd hBB hB3 (em := em) (fa := fa + 1) (by omega) (by omega) xx, ?_, fun w d g i hg hw => ?_, fun w i hw => ?_⟩
  · exact ⟨fun k hk => by unfold nE; simp (disch := omega) only [upd_n], fa, em, sh, fa + 1, em, sh, ⟨by omega, by omega, by omega⟩, ⟨by omega, by omega, by omega⟩, ⟨c3, c4, c5⟩, ⟨nE_4 .., nE_5 .., (nE_7 ..).trans c5⟩⟩
  · exact tc_F hg hw b1 (by omega) b4 b3
  · exact tm_F hw hdy (by omega) c4 c3
/-- the end of a day that gave a blessing -/
theorem tailB {qh nv B B' K dy v : Nat} {D : Nat → Nat → Int32} {N : Nat → Int32} (hnv : nv ≤ 8) (h : RD qh nv B D N) (hdy : N 0 = nI dy) (hB : B < 1000000) (hd : dy + 1 ≤ B') (hBB : B ≤ B') (hB3 : B' < 1000001) (hv : v < 8) :
    ∃ D' N', RD qh nv B' D' N' ∧ Mon N N' ∧ (∀ w d g i, g ≠ d → w.1 g 1 0 = nI K → bndV (f1_close d (nI v) 1 (sO w d D)) (fun w1 => f1_live_82 d g i w1) = some (sO w d D')) ∧ (∀ w i, w.1 32 0 0 = nI K → f8_pass_112 i (nI dy) (nI v) 0 (sA w 32 11 N) = some (sA w 32 11 N')) := by
  have h0 := h
  obtain ⟨dy', wt, fa, em, sh, st, k1, k2, k3, k4, k5, k6, ⟨b1, c1⟩, ⟨b2, c2⟩, ⟨b3, c3⟩, ⟨b4, c4⟩, ⟨b5, c5⟩, ⟨b6, c6⟩, ⟨b7, b8, b9, b10, b11⟩, b12⟩ := h
  obtain rfl : dy' = dy := (nI_eq (by omega) (by omega)).mp (c1.symm.trans hdy)
  refine ⟨_, _, RD.some hnv h0 (nI 0) (nI v) (dn (nI 0) K) hdy hB hd hBB hB3 (em := em) (fa := fa) (by omega) (by omega) xx hv, ?_, fun w d g i hg hw => ?_, fun w i hw => ?_⟩
  · refine ⟨fun k hk => by unfold nE; simp (disch := omega) only [upd_n], fa, em, sh, fa, em, sh, ⟨by omega, by omega, by omega⟩, ⟨by omega, by omega, by omega⟩, ⟨c3, c4, c5⟩, ⟨nE_4 .., nE_5 .., (nE_7 ..).trans ?_⟩⟩
    simp (disch := omega) only [upd_n, c5]
  · exact tc_B hv hg hw b1 (by omega) b4 b3
  · exact tm_B hv hw hdy (by omega) c4 c3
