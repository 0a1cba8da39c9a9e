/-! the least feet from a day on -/
section Feet
variable {nv K Y I F Fo : Nat} {ro pe fe fs fg : Nat → Nat} {M : Nat → Nat → Int32} {w : Mem} {g : Nat}
theorem lw_ok (h : RG nv K Y I F Fo ro pe fe fs fg (w.1 g) (w.2.1 g) M) (h1 : g = 24 ∨ g = 25) {self : Nat → Int32 → Mem → Option (Int32 × Mem)} {k v o : Nat} {C C1 : Nat → Int32} (hk : k < 10) (hv : v < nv) (ho : o ≤ 1000000) (hs : self g (nI (k + 1)) (sA w 31 0 (upd C k (nI v))) = some (nI o, sA w 31 0 C1)) : f4_leastWith self g (nI k) (nI v) (sA w 31 0 C) = some (nI (min 1000000 (2 * ro v + o)), sA w 31 0 C1) := by
  have hnv := h.1.1
  obtain ⟨⟨y1, -⟩, ⟨y2, -⟩, -⟩ := h.2.2.2.2.2.2.2.2.1 v hv
  have y3 : ∀ D, (sA w 31 0 D).1 g 7 v = nI (ro v) := fun D => by rw [ob_sA (by omega)]; exact y2
  have j := jmin_ok (a := 1000000) (b := 2 * ro v + o) (by omega) (by omega)
  unfold f4_leastWith
  simp (disch := omega) only [bE, bO, bV, bK, nI_lit, nI_add, lt_T, lt_F, le_T, le_F, eq_T, eq_F, ltm_T, ltm_F, lem_T, lem_F, eqm_F, meq_F, cl_nI, nle_T, nle_F, nlt_T, nlt_F, ↓reduceIte, or_true, true_or, or_false, false_or, and_true, true_and, and_false, false_and, not_true_eq_false, not_false_eq_true, or_self, and_self, true_implies, ite_self, sI_A, hs, y3, pk_mul, j]
theorem lf_ok (h : RG nv K Y I F Fo ro pe fe fs fg (w.1 g) (w.2.1 g) M) (h1 : g = 24 ∨ g = 25) {N dy : Nat} {lf : Int32} (hN : N ≤ 10) (hdy : dy < 100000) (e1 : w.1 31 1 0 = nI dy) (e2 : w.1 31 2 0 = nI N) (e3 : w.1 31 3 0 = lf)
    (hlf : ∀ k, k < N → ¬ nI k < lf → ∀ j, k < j → j < N → anyB Fo fg (dy + j) = false) :
    ∀ r k n c C, k + r = N → r < n → (∀ j, j < k → c j < 8 ∧ C j = nI (c j)) → ∃ C', f4_leastFrom n g (nI k) (sA w 31 0 C) = some (nI (opt nv Y ro (fun j => anyB Fo fg (dy + j)) r k c), sA w 31 0 C') ∧ ∀ j, j < k → C' j = C j := by
  have hnv := h.1.1
  have hg31 : g ≠ 31 := by omega
  intro r
  induction r with
  | zero =>
    intro k n c C hk hn hc
    obtain ⟨n, rfl⟩ : ∃ z, n = z + 1 := ⟨n - 1, by omega⟩
    refine ⟨C, ?_, fun _ _ => rfl⟩
    have e2' : (sA w 31 0 C).1 31 2 0 = nI N := by rw [ky_sA (by omega)]; exact e2
    rw [f4_leastFrom]
    unfold f4_leastFromB
    simp (disch := omega) only [bE, bO, bV, bK, nI_lit, nI_add, lt_T, lt_F, le_T, le_F, eq_T, eq_F, ltm_T, ltm_F, lem_T, lem_F, eqm_F, meq_F, cl_nI, nle_T, nle_F, nlt_T, nlt_F, ↓reduceIte, or_true, true_or, or_false, false_or, and_true, true_and, and_false, false_and, not_true_eq_false, not_false_eq_true, or_self, and_self, true_implies, ite_self, e2']
    rfl
  | succ r ih =>
    intro k n c C hk hn hc
    obtain ⟨n, rfl⟩ : ∃ z, n = z + 1 := ⟨n - 1, by omega⟩
    have e2' : ∀ D, (sA w 31 0 D).1 31 2 0 = nI N := fun D => by rw [ky_sA (by omega)]; exact e2
    have e3' : ∀ D, (sA w 31 0 D).1 31 3 0 = lf := fun D => by rw [ky_sA (by omega)]; exact e3
    obtain ⟨S, s1, s2, s3⟩ := free_ok (RG31 h h1 C) (k := k) (c := c) (by omega) hdy (by rw [ky_sA (by omega)]; exact e1) (fun j hj => by rw [kx_sA]; exact hc j hj)
    obtain ⟨r0, n1, n2⟩ := near_ok (RG31 h h1 C) (S := S) (a := 0) s1 (by omega)
    have fi : ∀ x, fr nv Y ro (fun j => anyB Fo fg (dy + j)) c k x = true → x < nv ∧ tb S x = true := fun x hx => by
      have hx1 := (fr_iff.mp hx).1
      exact ⟨hx1, by rw [s3 x (by omega)]; exact hx⟩
    have ti : ∀ x, x < nv → tb S x = true → fr nv Y ro (fun j => anyB Fo fg (dy + j)) c k x = true := fun x hx1 hx2 => by rw [← s3 x (by omega)]; exact hx2
    have step : ∀ v D, v < nv → (∀ j, j < k → D j = C j) → ∃ D', f4_leastWith (f4_leastFrom n) g (nI k) (nI v) (sA w 31 0 D) = some (nI (min 1000000 (2 * ro v + opt nv Y ro (fun j => anyB Fo fg (dy + j)) r (k + 1) (uN c k v))), sA w 31 0 D') ∧ ∀ j, j < k → D' j = C j := by
      intro v D hv hD
      obtain ⟨D', a1, a2⟩ := ih (k + 1) n (uN c k v) (upd D k (nI v)) (by omega) (by omega) (fun j hj => by
        by_cases hz : j = k
        · subst hz; rw [uN_s, upd_s]; exact ⟨by omega, rfl⟩
        · rw [uN_n hz, upd_n hz, hD j (by omega)]; exact hc j (by omega))
      exact ⟨D', lw_ok h h1 (by omega) hv (opt_le _ _ _) a1, fun j hj => by rw [a2 j (by omega), upd_n (by omega)]; exact hD j hj⟩
    have hle := opt_le (nv := nv) (Y := Y) (ro := ro) (fog := fun j => anyB Fo fg (dy + j)) (r + 1) k c
    have hex := opt_ex (nv := nv) (Y := Y) (ro := ro) (fog := fun j => anyB Fo fg (dy + j)) r k c
    rw [f4_leastFrom]
    unfold f4_leastFromB
    rcases n2 with ⟨z1, z2⟩ | ⟨v0, z1, z2, z3, z4, z5⟩
    · refine ⟨C, ?_, fun _ _ => rfl⟩
      have ho : opt nv Y ro (fun j => anyB Fo fg (dy + j)) (r + 1) k c = 1000000 := by
        rcases hex with q | ⟨x, hx, -⟩
        · exact q
        · have := z2 x (fi x hx).1 (fi x hx).2; omega
      have l : f4_leastWith (f4_leastFrom n) g (nI k) (-nI 1) (sA w 31 0 C) = some (nI 1000000, sA w 31 0 C) := by
        unfold f4_leastWith
        rw [if_pos (by decide)]; rfl
      subst z1
      rw [ho]
      simp (disch := omega) only [bE, bO, bV, bK, nI_lit, nI_add, lt_T, lt_F, le_T, le_F, eq_T, eq_F, ltm_T, ltm_F, lem_T, lem_F, eqm_F, meq_F, cl_nI, nle_T, nle_F, nlt_T, nlt_F, ↓reduceIte, or_true, true_or, or_false, false_or, and_true, true_and, and_false, false_and, not_true_eq_false, not_false_eq_true, or_self, and_self, true_implies, ite_self, e2', s2, n1, l]
    · obtain ⟨D, a1, a2⟩ := step v0 C z1 (fun _ _ => rfl)
      have hv0 := ti v0 z1 z3
      have lb0 := opt_lb (r := r) hv0
      obtain ⟨⟨y1, -⟩, ⟨y2, -⟩, -⟩ := h.2.2.2.2.2.2.2.2.1 v0 z1
      have y3 : ∀ D, (sA w 31 0 D).1 g 7 v0 = nI (ro v0) := fun D => by rw [ob_sA hg31]; exact y2
      obtain ⟨O, hO⟩ : ∃ O, O = opt nv Y ro (fun j => anyB Fo fg (dy + j)) (r + 1) k c := ⟨_, rfl⟩
      obtain ⟨A, hA⟩ : ∃ A, A = min 1000000 (2 * ro v0 + opt nv Y ro (fun j => anyB Fo fg (dy + j)) r (k + 1) (uN c k v0)) := ⟨_, rfl⟩
      rw [← hA] at a1
      rw [← hO] at hle lb0 hex ⊢
      have hOA : O ≤ A := by omega
      have hA6 : A ≤ 1000000 := by omega
      subst z2
      by_cases c1 : 0 < ro v0
      · have e : A = O := by
          rcases hex with q | ⟨x, hx, q⟩
          · omega
          · have := first_ok (r := r) hx hv0 (z5 x (fi x hx).1 (fi x hx).2 (by omega)) (Or.inr (fun z => by omega))
            omega
        refine ⟨D, ?_, a2⟩
        rw [← e]
        simp (disch := omega) only [bE, bO, bV, bK, nI_lit, nI_add, lt_T, lt_F, le_T, le_F, eq_T, eq_F, ltm_T, ltm_F, lem_T, lem_F, eqm_F, meq_F, cl_nI, nle_T, nle_F, nlt_T, nlt_F, ↓reduceIte, or_true, true_or, or_false, false_or, and_true, true_and, and_false, false_and, not_true_eq_false, not_false_eq_true, or_self, and_self, true_implies, ite_self, e2', s2, n1, a1, y3]
      · have r0 : ro v0 = 0 := by omega
        by_cases c2 : nI k < lf
        · obtain ⟨r1, m1, m2⟩ := near_ok (RG31 h h1 D) (S := S) (a := 1) s1 (by omega)
          rcases m2 with ⟨t1, t2⟩ | ⟨o, t1, t2, t3, t4, t5⟩
          · have e : A = O := by
              rcases hex with q | ⟨x, hx, q⟩
              · omega
              · have := first_ok (r := r) hx hv0 (z5 x (fi x hx).1 (fi x hx).2 (by omega)) (Or.inr (fun z => by have := t2 x (fi x hx).1 (fi x hx).2; omega))
                omega
            refine ⟨D, ?_, a2⟩
            subst t1
            rw [← e]
            simp (disch := omega) only [bE, bO, bV, bK, nI_lit, nI_add, lt_T, lt_F, le_T, le_F, eq_T, eq_F, ltm_T, ltm_F, lem_T, lem_F, eqm_F, meq_F, cl_nI, nle_T, nle_F, nlt_T, nlt_F, ↓reduceIte, or_true, true_or, or_false, false_or, and_true, true_and, and_false, false_and, not_true_eq_false, not_false_eq_true, or_self, and_self, true_implies, ite_self, e2', e3', s2, n1, a1, y3, r0, c2, m1]
          · have hfo := ti o t1 t3
            have lbo := opt_lb (r := r) hfo
            rw [← hO] at lbo
            obtain ⟨⟨w1, -⟩, ⟨w2, -⟩, -⟩ := h.2.2.2.2.2.2.2.2.1 o t1
            have w3 : ∀ D, (sA w 31 0 D).1 g 7 o = nI (ro o) := fun D => by rw [ob_sA hg31]; exact w2
            have w4 : nI 2 * nI (ro o) = nI (2 * ro o) := pk_mul _ _
            have near : ∀ x, fr nv Y ro (fun j => anyB Fo fg (dy + j)) c k x = true → ro x = 0 → A ≤ 2 * ro x + opt nv Y ro (fun j => anyB Fo fg (dy + j)) r (k + 1) (uN c k x) := fun x hx hx0 => by
              have := first_ok (r := r) hx hv0 (by omega) (Or.inr (fun z => hx0))
              omega
            subst t2
            by_cases c3 : 2 * ro o < A
            · obtain ⟨D2, b1, b2⟩ := step o D t1 a2
              obtain ⟨B, hB⟩ : ∃ B, B = min 1000000 (2 * ro o + opt nv Y ro (fun j => anyB Fo fg (dy + j)) r (k + 1) (uN c k o)) := ⟨_, rfl⟩
              rw [← hB] at b1
              have jm := jmin_ok (a := A) (b := B) (by omega) (by omega)
              have e : min A B = O := by
                rcases hex with q | ⟨x, hx, q⟩
                · omega
                · by_cases hx0 : ro x = 0
                  · have := near x hx hx0; omega
                  · have := first_ok (r := r) hx hfo (t5 x (fi x hx).1 (fi x hx).2 (by omega)) (Or.inr (fun z => by omega))
                    omega
              refine ⟨D2, ?_, b2⟩
              rw [← e]
              simp (disch := omega) only [bE, bO, bV, bK, nI_lit, nI_add, lt_T, lt_F, le_T, le_F, eq_T, eq_F, ltm_T, ltm_F, lem_T, lem_F, eqm_F, meq_F, cl_nI, nle_T, nle_F, nlt_T, nlt_F, ↓reduceIte, or_true, true_or, or_false, false_or, and_true, true_and, and_false, false_and, not_true_eq_false, not_false_eq_true, or_self, and_self, true_implies, ite_self, e2', e3', s2, n1, a1, y3, r0, c2, m1, w3, w4, b1, jm]
            · have e : A = O := by
                rcases hex with q | ⟨x, hx, q⟩
                · omega
                · by_cases hx0 : ro x = 0
                  · have := near x hx hx0; omega
                  · have := t5 x (fi x hx).1 (fi x hx).2 (by omega)
                    omega
              refine ⟨D, ?_, a2⟩
              rw [← e]
              simp (disch := omega) only [bE, bO, bV, bK, nI_lit, nI_add, lt_T, lt_F, le_T, le_F, eq_T, eq_F, ltm_T, ltm_F, lem_T, lem_F, eqm_F, meq_F, cl_nI, nle_T, nle_F, nlt_T, nlt_F, ↓reduceIte, or_true, true_or, or_false, false_or, and_true, true_and, and_false, false_and, not_true_eq_false, not_false_eq_true, or_self, and_self, true_implies, ite_self, e2', e3', s2, n1, a1, y3, r0, c2, m1, w3, w4]
        · have e : A = O := by
            rcases hex with q | ⟨x, hx, q⟩
            · omega
            · have := first_ok (r := r) hx hv0 (z5 x (fi x hx).1 (fi x hx).2 (by omega)) (Or.inl (fun j j1 j2 => hlf k (by omega) c2 j j1 (by omega)))
              omega
          refine ⟨D, ?_, a2⟩
          rw [← e]
          simp (disch := omega) only [bE, bO, bV, bK, nI_lit, nI_add, lt_T, lt_F, le_T, le_F, eq_T, eq_F, ltm_T, ltm_F, lem_T, lem_F, eqm_F, meq_F, cl_nI, nle_T, nle_F, nlt_T, nlt_F, ↓reduceIte, or_true, true_or, or_false, false_or, and_true, true_and, and_false, false_and, not_true_eq_false, not_false_eq_true, or_self, and_self, true_implies, ite_self, e2', e3', s2, n1, a1, y3, r0, c2]
end Feet
