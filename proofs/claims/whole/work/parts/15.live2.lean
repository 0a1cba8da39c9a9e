/-! the end of a day -/
def dE (D : Nat → Nat → Int32) (dy em fa : Nat) (run who x : Int32) : Nat → Nat → Int32 := uK (uK (uK (uK (uK (uK D 10 (upd (D 10) 0 (nI em))) 9 (upd (D 9) 0 (nI fa))) 7 (upd (D 7) 0 run)) 3 (upd (D 3) (dy % 60) who)) 6 (upd (D 6) 0 (nI (dy + 1)))) 13 (upd (D 13) 0 x)
def nE (N : Nat → Int32) (dy em fa : Nat) (run who x : Int32) : Nat → Int32 := upd (upd (upd (upd (upd (upd N (43 + dy % 60) who) 4 (nI fa)) 5 (nI em)) 1 run) 2 x) 0 (nI (dy + 1))
theorem uK_id (D : Nat → Nat → Int32) (k : Nat) : uK D k (D k) = D := by
  funext b
  by_cases h : b = k
  · subst h; exact uK_s _ _ _
  · exact uK_n h
theorem uK_c (D : Nat → Nat → Int32) {k k' : Nat} (h : k ≠ k') (f f' : Nat → Int32) : uK (uK D k f) k' f' = uK (uK D k' f') k f := by
  funext b
  by_cases h1 : b = k
  · subst h1; rw [uK_n h, uK_s, uK_s]
  · by_cases h2 : b = k'
    · subst h2; rw [uK_s, uK_n h1, uK_s]
    · rw [uK_n h2, uK_n h1, uK_n h1, uK_n h2]
theorem xx {c : Prop} [Decidable c] : (if c then nI 0 else nI 1) = 0 ∨ (if c then nI 0 else nI 1) = 1 := by
  by_cases h : c
  · rw [if_pos h]; exact Or.inl rfl
  · rw [if_neg h]; exact Or.inr rfl
theorem uK_same {D : Nat → Nat → Int32} {k : Nat} {f : Nat → Int32} (h : D k = f) : uK D k f = D := by rw [← h]; exact uK_id D k
theorem upd_c (f : Nat → Int32) {i j : Nat} (h : i ≠ j) (x y : Int32) : upd (upd f i x) j y = upd (upd f j y) i x := by
  funext k
  by_cases h1 : k = i
  · subst h1; rw [upd_n h, upd_s, upd_s]
  · by_cases h2 : k = j
    · subst h2; rw [upd_s, upd_n h1, upd_s]
    · rw [upd_n h2, upd_n h1, upd_n h1, upd_n h2]
/-- the relation behind a day: who was blessed (-1: nobody) was put into the row of the last ones ahead -/
theorem RD.none {qh nv B B' dy em fa : Nat} {D : Nat → Nat → Int32} {N : Nat → Int32} (hnv : nv ≤ 8) (h : RD qh nv B D N) (run who x : Int32) (hdy : N 0 = nI dy) (hB : B < 1000000) (hd : dy + 1 ≤ B') (hBB : B ≤ B') (hB3 : B' < 1000001) (he : em ≤ dy + 1) (hf : fa ≤ dy + 1) (hx : x = 0 ∨ x = 1) : RD qh nv B' (dE D dy em fa run who x) (nE N dy em fa run who x) := by
  obtain ⟨dy', wt, fa', em', sh, st, k1, k2, k3, k4, k5, k6, ⟨b1, c1⟩, ⟨b2, c2⟩, ⟨b3, c3⟩, ⟨b4, c4⟩, ⟨b5, c5⟩, ⟨b6, c6⟩, ⟨b7, b8, b9, b10, b11⟩, b12, b13, b14, b15⟩ := h
  obtain rfl : dy' = dy := (nI_eq (by omega) (by omega)).mp (c1.symm.trans hdy)
  refine ⟨dy' + 1, wt, fa, em, sh, st, by omega, k2, hf, he, by omega, k6, ?_, ?_, ?_, ?_, ?_, ?_, ?_, ?_, ?_, ?_, ?_⟩
  all_goals unfold dE nE
  · simp (disch := omega) only [uK_s, uK_n, upd_s, upd_n, and_self, true_and, and_true]
  · simp (disch := omega) only [uK_s, uK_n, upd_s, upd_n, and_self, true_and, and_true]; exact ⟨b2, c2⟩
  · simp (disch := omega) only [uK_s, uK_n, upd_s, upd_n, and_self, true_and, and_true]
  · simp (disch := omega) only [uK_s, uK_n, upd_s, upd_n, and_self, true_and, and_true]
  · simp (disch := omega) only [uK_s, uK_n, upd_s, upd_n, and_self, true_and, and_true]; exact ⟨b5, c5⟩
  · simp (disch := omega) only [uK_s, uK_n, upd_s, upd_n, and_self, true_and, and_true]; exact ⟨b6, c6⟩
  · simp (disch := omega) only [uK_s, uK_n, upd_s, upd_n, and_self, true_and, and_true]; exact ⟨hx, b10, b11⟩
  · intro v hv
    simp (disch := omega) only [uK_s, uK_n, upd_s, upd_n, and_self, true_and, and_true]
    exact b12 v hv
  · intro v hv
    simp (disch := omega) only [uK_s, uK_n, upd_s, upd_n, and_self, true_and, and_true]
    obtain ⟨z1, z2, z3⟩ := b13 v hv
    exact ⟨z1, z2.imp id (fun ⟨l, q1, q2⟩ => ⟨l, by omega, q2⟩), z3.imp id (fun ⟨l, q1, q2⟩ => ⟨l, by omega, q2⟩)⟩
  · intro k hk
    simp (disch := omega) only [uK_s, uK_n, upd_s, upd_n, and_self, true_and, and_true]
    exact b14 k hk
  · intro c hc hc2
    simp (disch := omega) only [uK_s, uK_n, upd_n]
    by_cases hz : c = dy' % 60
    · subst hz; rw [upd_s, upd_s]; exact fun _ => rfl
    · rw [upd_n hz, upd_n (by omega)]; exact b15 c hc (by omega)
/-- one more blessed: v, today -/
theorem RD.last {qh nv B dy v : Nat} {D : Nat → Nat → Int32} {N : Nat → Int32} (hnv : nv ≤ 8) (h : RD qh nv B D N) (hdy : N 0 = nI dy) (hd : dy < 1000001) (hB : B < 1000000) (hv : v < 8) :
    ∀ c, c < 8 → (c < nv → (uK (uK D 8 (upd (D 8) 0 (D 8 0 + nI 1))) 1 (upd (D 1) v (nI dy))) 1 c = (upd (upd N (18 + v) (nI dy)) 3 (N 3 + nI 1)) (18 + c)) ∧ ((uK (uK D 8 (upd (D 8) 0 (D 8 0 + nI 1))) 1 (upd (D 1) v (nI dy))) 1 c = -1 ∨ ∃ l, l < dy + 1 ∧ (uK (uK D 8 (upd (D 8) 0 (D 8 0 + nI 1))) 1 (upd (D 1) v (nI dy))) 1 c = nI l) ∧ ((upd (upd N (18 + v) (nI dy)) 3 (N 3 + nI 1)) (18 + c) = -1 ∨ ∃ l, l < dy + 1 + 1 ∧ (upd (upd N (18 + v) (nI dy)) 3 (N 3 + nI 1)) (18 + c) = nI l) := by
  obtain ⟨dy', wt, fa', em', sh, st, k1, k2, k3, k4, k5, k6, ⟨b1, c1⟩, -, -, -, -, -, -, b12, b13, b14, b15⟩ := h
  obtain rfl : dy' = dy := (nI_eq (by omega) (by omega)).mp (c1.symm.trans hdy)
  intro c hc
  have e : (upd (upd N (18 + v) (nI dy')) 3 (N 3 + nI 1)) (18 + c) = upd N (18 + v) (nI dy') (18 + c) := upd_n (by omega)
  rw [uK_s, e]
  by_cases hz : c = v
  · subst hz; rw [upd_s, upd_s]; exact ⟨fun _ => rfl, Or.inr ⟨dy', by omega, rfl⟩, Or.inr ⟨dy', by omega, rfl⟩⟩
  · rw [upd_n hz, upd_n (by omega)]
    obtain ⟨z1, z2, z3⟩ := b13 c hc
    exact ⟨z1, z2.imp id (fun ⟨l, q1, q2⟩ => ⟨l, by omega, q2⟩), z3.imp id (fun ⟨l, q1, q2⟩ => ⟨l, by omega, q2⟩)⟩
theorem RD.some {qh nv B B' dy em fa v : Nat} {D : Nat → Nat → Int32} {N : Nat → Int32} (hnv : nv ≤ 8) (h : RD qh nv B D N) (run who x : Int32) (hdy : N 0 = nI dy) (hB : B < 1000000) (hd : dy + 1 ≤ B') (hBB : B ≤ B') (hB3 : B' < 1000001) (he : em ≤ dy + 1) (hf : fa ≤ dy + 1) (hx : x = 0 ∨ x = 1) (hv : v < 8) :
    RD qh nv B' (dE (uK (uK D 8 (upd (D 8) 0 (D 8 0 + nI 1))) 1 (upd (D 1) v (nI dy))) dy em fa run who x) (nE (upd (upd N (18 + v) (nI dy)) 3 (N 3 + nI 1)) dy em fa run who x) := by
  have hl := RD.last hnv h hdy (by omega) hB hv
  obtain ⟨dy', wt, fa', em', sh, st, k1, k2, k3, k4, k5, k6, ⟨b1, c1⟩, ⟨b2, c2⟩, ⟨b3, c3⟩, ⟨b4, c4⟩, ⟨b5, c5⟩, ⟨b6, c6⟩, ⟨b7, b8, b9, b10, b11⟩, b12, b13, b14, b15⟩ := h
  obtain rfl : dy' = dy := (nI_eq (by omega) (by omega)).mp (c1.symm.trans hdy)
  refine ⟨dy' + 1, wt, fa, em, sh, st, by omega, k2, hf, he, by omega, k6, ?_, ?_, ?_, ?_, ?_, ?_, ?_, ?_, ?_, ?_, ?_⟩
  all_goals unfold dE nE
  · simp (disch := omega) only [uK_s, uK_n, upd_s, upd_n, and_self, true_and, and_true]
  · simp (disch := omega) only [uK_s, uK_n, upd_s, upd_n, and_self, true_and, and_true]; exact ⟨b2, c2⟩
  · simp (disch := omega) only [uK_s, uK_n, upd_s, upd_n, and_self, true_and, and_true]
  · simp (disch := omega) only [uK_s, uK_n, upd_s, upd_n, and_self, true_and, and_true]
  · simp (disch := omega) only [uK_s, uK_n, upd_s, upd_n, and_self, true_and, and_true]; exact ⟨b5, c5⟩
  · simp (disch := omega) only [uK_s, uK_n, upd_s, upd_n, and_self, true_and, and_true]; exact ⟨b6, c6⟩
  · simp (disch := omega) only [uK_s, uK_n, upd_s, upd_n, and_self, true_and, and_true]; rw [b10]; exact ⟨hx, rfl, b11⟩
  · intro c hc
    simp (disch := omega) only [uK_s, uK_n, upd_s, upd_n, and_self, true_and, and_true]
    exact b12 c hc
  · intro c hc
    have z := hl c hc
    simp (disch := omega) only [uK_n, uK_s, upd_n] at z ⊢
    exact z
  · intro k hk
    simp (disch := omega) only [uK_s, uK_n, upd_s, upd_n, and_self, true_and, and_true]
    exact b14 k hk
  · intro c hc hc2
    simp (disch := omega) only [uK_s, uK_n, upd_n]
    by_cases hz : c = dy' % 60
    · subst hz; rw [upd_s, upd_s]; exact fun _ => rfl
    · rw [upd_n hz, upd_n (by omega), upd_n (by omega), upd_n (by omega)]; exact b15 c hc (by omega)
section Tail
variable {K dy em fa : Nat} {d g : Nat} {D : Nat → Nat → Int32} {N : Nat → Int32} {i : Int32} {w : Mem}
def dn (run : Int32) (K : Nat) : Int32 := if run < nI K then nI 0 else nI 1
theorem tc_E (hg : g ≠ d) (hw : w.1 g 1 0 = nI K) (h6 : D 6 0 = nI dy) (hd : dy < 1000001) (h10 : D 10 0 = nI em) (h9 : D 9 0 = nI fa) : bndV (f1_close d (-1) 0 (sO w d D)) (fun w1 => f1_live_82 d g i w1) = some (sO w d (dE D dy (em + 1) fa (D 7 0 + nI 1) (-1) (dn (D 7 0 + nI 1) K))) := by
  have j1 := jr60 (t := dy) (by omega)
  rw [nI_lit] at j1
  have e9 : upd (D 9) 0 (nI fa) = D 9 := by rw [← h9]; exact upd_id _ _
  unfold dE
  rw [e9, uK_same (D := uK D 10 _) (k := 9) (uK_n (by omega))]
  unfold f1_close f1_close_47 f1_close_80 f1_live_82 dn
  by_cases hd : D 7 0 + nI 1 < nI K
  · simp (disch := omega) only [bE, bO, bV, bK, nI_lit, nI_add, lt_T, lt_F, le_T, le_F, eq_T, eq_F, ltm_T, ltm_F, lem_T, lem_F, eqm_F, meq_F, cl_nI, nle_T, nle_F, nlt_T, nlt_F, ↓reduceIte, or_true, true_or, or_false, false_or, and_true, true_and, and_false, false_and, not_true_eq_false, not_false_eq_true, or_self, and_self, true_implies, ite_self, sI_sO, sA_sO, sO_s, sO_n, sO_2, uK_s, uK_n, upd_s, upd_n, upd_upd, h6, h10, j1, hw, hd]
  · simp (disch := omega) only [bE, bO, bV, bK, nI_lit, nI_add, lt_T, lt_F, le_T, le_F, eq_T, eq_F, ltm_T, ltm_F, lem_T, lem_F, eqm_F, meq_F, cl_nI, nle_T, nle_F, nlt_T, nlt_F, ↓reduceIte, or_true, true_or, or_false, false_or, and_true, true_and, and_false, false_and, not_true_eq_false, not_false_eq_true, or_self, and_self, true_implies, ite_self, sI_sO, sA_sO, sO_s, sO_n, sO_2, uK_s, uK_n, upd_s, upd_n, upd_upd, h6, h10, j1, hw, hd]
theorem tc_F (hg : g ≠ d) (hw : w.1 g 1 0 = nI K) (h6 : D 6 0 = nI dy) (hd : dy < 1000001) (h10 : D 10 0 = nI em) (h9 : D 9 0 = nI fa) : bndV (f1_close d (-1) 2 (sO w d D)) (fun w1 => f1_live_82 d g i w1) = some (sO w d (dE D dy em (fa + 1) (nI 0) (-1) (dn (nI 0) K))) := by
  have j1 := jr60 (t := dy) (by omega)
  rw [nI_lit] at j1
  have e10 : upd (D 10) 0 (nI em) = D 10 := by rw [← h10]; exact upd_id _ _
  unfold dE
  rw [e10, uK_id D 10, uK_c D (k := 9) (k' := 7) (by omega)]
  unfold f1_close f1_close_47 f1_close_80 f1_live_82 dn
  by_cases hd : nI 0 < nI K
  · simp (disch := omega) only [bE, bO, bV, bK, nI_lit, nI_add, lt_T, lt_F, le_T, le_F, eq_T, eq_F, ltm_T, ltm_F, lem_T, lem_F, eqm_F, meq_F, cl_nI, nle_T, nle_F, nlt_T, nlt_F, ↓reduceIte, or_true, true_or, or_false, false_or, and_true, true_and, and_false, false_and, not_true_eq_false, not_false_eq_true, or_self, and_self, true_implies, ite_self, sI_sO, sA_sO, sO_s, sO_n, sO_2, uK_s, uK_n, upd_s, upd_n, upd_upd, h6, h9, j1, hw, hd]
  · simp (disch := omega) only [bE, bO, bV, bK, nI_lit, nI_add, lt_T, lt_F, le_T, le_F, eq_T, eq_F, ltm_T, ltm_F, lem_T, lem_F, eqm_F, meq_F, cl_nI, nle_T, nle_F, nlt_T, nlt_F, ↓reduceIte, or_true, true_or, or_false, false_or, and_true, true_and, and_false, false_and, not_true_eq_false, not_false_eq_true, or_self, and_self, true_implies, ite_self, sI_sO, sA_sO, sO_s, sO_n, sO_2, uK_s, uK_n, upd_s, upd_n, upd_upd, h6, h9, j1, hw, hd]
theorem tc_B {v : Nat} (hv : v < 8) (hg : g ≠ d) (hw : w.1 g 1 0 = nI K) (h6 : D 6 0 = nI dy) (hd : dy < 1000001) (h10 : D 10 0 = nI em) (h9 : D 9 0 = nI fa) : bndV (f1_close d (nI v) 1 (sO w d D)) (fun w1 => f1_live_82 d g i w1) = some (sO w d (dE (uK (uK D 8 (upd (D 8) 0 (D 8 0 + nI 1))) 1 (upd (D 1) v (nI dy))) dy em fa (nI 0) (nI v) (dn (nI 0) K))) := by
  have j1 := jr60 (t := dy) (by omega)
  rw [nI_lit] at j1
  have e10 : upd (D 10) 0 (nI em) = D 10 := by rw [← h10]; exact upd_id _ _
  have e9 : upd (D 9) 0 (nI fa) = D 9 := by rw [← h9]; exact upd_id _ _
  have eD : dE (uK (uK D 8 (upd (D 8) 0 (D 8 0 + nI 1))) 1 (upd (D 1) v (nI dy))) dy em fa (nI 0) (nI v) (dn (nI 0) K) = uK (uK (uK (uK (uK (uK D 7 (upd (D 7) 0 (nI 0))) 8 (upd (D 8) 0 (D 8 0 + nI 1))) 1 (upd (D 1) v (nI dy))) 3 (upd (D 3) (dy % 60) (nI v))) 6 (upd (D 6) 0 (nI (dy + 1)))) 13 (upd (D 13) 0 (dn (nI 0) K)) := by
    unfold dE
    simp (disch := omega) only [uK_n, uK_s]
    rw [e10, e9, uK_same (k := 10) (by simp (disch := omega) only [uK_n]), uK_same (k := 9) (by simp (disch := omega) only [uK_n])]
    rw [uK_c (uK D 8 _) (k := 1) (k' := 7) (by omega), uK_c D (k := 8) (k' := 7) (by omega)]
  rw [eD]
  unfold f1_close f1_close_47 f1_close_80 f1_live_82 dn
  by_cases hd : nI 0 < nI K
  · simp (disch := omega) only [bE, bO, bV, bK, nI_lit, nI_add, lt_T, lt_F, le_T, le_F, eq_T, eq_F, ltm_T, ltm_F, lem_T, lem_F, eqm_F, meq_F, cl_nI, nle_T, nle_F, nlt_T, nlt_F, ↓reduceIte, or_true, true_or, or_false, false_or, and_true, true_and, and_false, false_and, not_true_eq_false, not_false_eq_true, or_self, and_self, true_implies, ite_self, sI_sO, sA_sO, sO_s, sO_n, sO_2, uK_s, uK_n, upd_s, upd_n, upd_upd, h6, h9, j1, hw, hd]
  · simp (disch := omega) only [bE, bO, bV, bK, nI_lit, nI_add, lt_T, lt_F, le_T, le_F, eq_T, eq_F, ltm_T, ltm_F, lem_T, lem_F, eqm_F, meq_F, cl_nI, nle_T, nle_F, nlt_T, nlt_F, ↓reduceIte, or_true, true_or, or_false, false_or, and_true, true_and, and_false, false_and, not_true_eq_false, not_false_eq_true, or_self, and_self, true_implies, ite_self, sI_sO, sA_sO, sO_s, sO_n, sO_2, uK_s, uK_n, upd_s, upd_n, upd_upd, h6, h9, j1, hw, hd]
/-- the reference -/
theorem tm_E (hw : w.1 32 0 0 = nI K) (h6 : N 0 = nI dy) (hd : dy < 1000001) (h10 : N 5 = nI em) (h9 : N 4 = nI fa) : f8_pass_112 i (nI dy) (-1) 0 (sA w 32 11 N) = some (sA w 32 11 (nE N dy (em + 1) fa (N 1 + nI 1) (-1) (dn (N 1 + nI 1) K))) := by
  have j1 := jr60 (t := dy) (by omega)
  rw [nI_lit] at j1
  unfold f8_pass_112 f8_pass_154 f8_pass_171 f8_pass_188 f8_pass_207 f8_pass_231 f8_pass_255 nE dn
  by_cases hd : N 1 + nI 1 < nI K
  · simp (disch := omega) only [bE, bO, bV, bK, nI_lit, nI_add, lt_T, lt_F, le_T, le_F, eq_T, eq_F, ltm_T, ltm_F, lem_T, lem_F, eqm_F, meq_F, cl_nI, nle_T, nle_F, nlt_T, nlt_F, ↓reduceIte, or_true, true_or, or_false, false_or, and_true, true_and, and_false, false_and, not_true_eq_false, not_false_eq_true, or_self, and_self, true_implies, ite_self, sI_A, kx_sA, ky_sA, ob_sA, sA_2, upd_s, upd_n, upd_upd, h6, h10, h9, j1, hw, hd, Nat.add_zero]
  · simp (disch := omega) only [bE, bO, bV, bK, nI_lit, nI_add, lt_T, lt_F, le_T, le_F, eq_T, eq_F, ltm_T, ltm_F, lem_T, lem_F, eqm_F, meq_F, cl_nI, nle_T, nle_F, nlt_T, nlt_F, ↓reduceIte, or_true, true_or, or_false, false_or, and_true, true_and, and_false, false_and, not_true_eq_false, not_false_eq_true, or_self, and_self, true_implies, ite_self, sI_A, kx_sA, ky_sA, ob_sA, sA_2, upd_s, upd_n, upd_upd, h6, h10, h9, j1, hw, hd, Nat.add_zero]
theorem tm_F (hw : w.1 32 0 0 = nI K) (h6 : N 0 = nI dy) (hd : dy < 1000001) (h10 : N 5 = nI em) (h9 : N 4 = nI fa) : f8_pass_112 i (nI dy) (-1) 1 (sA w 32 11 N) = some (sA w 32 11 (nE N dy em (fa + 1) (nI 0) (-1) (dn (nI 0) K))) := by
  have j1 := jr60 (t := dy) (by omega)
  rw [nI_lit] at j1
  unfold f8_pass_112 f8_pass_154 f8_pass_171 f8_pass_188 f8_pass_207 f8_pass_231 f8_pass_255 nE dn
  by_cases hd : nI 0 < nI K
  · simp (disch := omega) only [bE, bO, bV, bK, nI_lit, nI_add, lt_T, lt_F, le_T, le_F, eq_T, eq_F, ltm_T, ltm_F, lem_T, lem_F, eqm_F, meq_F, cl_nI, nle_T, nle_F, nlt_T, nlt_F, ↓reduceIte, or_true, true_or, or_false, false_or, and_true, true_and, and_false, false_and, not_true_eq_false, not_false_eq_true, or_self, and_self, true_implies, ite_self, sI_A, kx_sA, ky_sA, ob_sA, sA_2, upd_s, upd_n, upd_upd, h6, h10, h9, j1, hw, hd, Nat.add_zero]
  · simp (disch := omega) only [bE, bO, bV, bK, nI_lit, nI_add, lt_T, lt_F, le_T, le_F, eq_T, eq_F, ltm_T, ltm_F, lem_T, lem_F, eqm_F, meq_F, cl_nI, nle_T, nle_F, nlt_T, nlt_F, ↓reduceIte, or_true, true_or, or_false, false_or, and_true, true_and, and_false, false_and, not_true_eq_false, not_false_eq_true, or_self, and_self, true_implies, ite_self, sI_A, kx_sA, ky_sA, ob_sA, sA_2, upd_s, upd_n, upd_upd, h6, h10, h9, j1, hw, hd, Nat.add_zero]
theorem tm_B {v : Nat} (hv : v < 8) (hw : w.1 32 0 0 = nI K) (h6 : N 0 = nI dy) (hd : dy < 1000001) (h10 : N 5 = nI em) (h9 : N 4 = nI fa) : f8_pass_112 i (nI dy) (nI v) 0 (sA w 32 11 N) = some (sA w 32 11 (nE (upd (upd N (18 + v) (nI dy)) 3 (N 3 + nI 1)) dy em fa (nI 0) (nI v) (dn (nI 0) K))) := by
  have j1 := jr60 (t := dy) (by omega)
  rw [nI_lit] at j1
  have eN : upd (upd (upd N (18 + v) (nI dy)) 3 (N 3 + nI 1)) (43 + dy % 60) (nI v) = upd (upd (upd N (43 + dy % 60) (nI v)) (18 + v) (nI dy)) 3 (N 3 + nI 1) := by
    rw [upd_c (upd N (18 + v) (nI dy)) (i := 3) (j := 43 + dy % 60) (by omega), upd_c N (i := 18 + v) (j := 43 + dy % 60) (by omega)]
  unfold nE
  rw [eN]
  unfold f8_pass_112 f8_pass_154 f8_pass_171 f8_pass_188 f8_pass_207 f8_pass_231 f8_pass_255 dn
  by_cases hd : nI 0 < nI K
  · simp (disch := omega) only [bE, bO, bV, bK, nI_lit, nI_add, lt_T, lt_F, le_T, le_F, eq_T, eq_F, ltm_T, ltm_F, lem_T, lem_F, eqm_F, meq_F, cl_nI, nle_T, nle_F, nlt_T, nlt_F, ↓reduceIte, or_true, true_or, or_false, false_or, and_true, true_and, and_false, false_and, not_true_eq_false, not_false_eq_true, or_self, and_self, true_implies, ite_self, sI_A, kx_sA, ky_sA, ob_sA, sA_2, upd_s, upd_n, upd_upd, h6, h10, h9, j1, hw, hd, Nat.add_zero]
  · simp (disch := omega) only [bE, bO, bV, bK, nI_lit, nI_add, lt_T, lt_F, le_T, le_F, eq_T, eq_F, ltm_T, ltm_F, lem_T, lem_F, eqm_F, meq_F, cl_nI, nle_T, nle_F, nlt_T, nlt_F, ↓reduceIte, or_true, true_or, or_false, false_or, and_true, true_and, and_false, false_and, not_true_eq_false, not_false_eq_true, or_self, and_self, true_implies, ite_self, sI_A, kx_sA, ky_sA, ob_sA, sA_2, upd_s, upd_n, upd_upd, h6, h10, h9, j1, hw, hd, Nat.add_zero]
end Tail
