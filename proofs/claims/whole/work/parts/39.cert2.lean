theorem uN_s (A : Nat → Nat) (v o : Nat) : uN A v o v = o := if_pos rfl
theorem uN_n {A : Nat → Nat} {v o u : Nat} (h : u ≠ v) : uN A v o u = A u := if_neg h
section Rock
variable {nv K Y I F Fo : Nat} {ro pe fe fs fg : Nat → Nat} {G : Nat → Nat → Int32} {GL : Nat → Nat → Int64} {M : Nat → Nat → Int32} {w : Mem} {g : Nat}
theorem RG30 (h : RG nv K Y I F Fo ro pe fe fs fg (w.1 g) (w.2.1 g) M) (h1 : g = 24 ∨ g = 25) (C : Nat → Int32) : RG nv K Y I F Fo ro pe fe fs fg ((sA w 30 0 C).1 g) ((sA w 30 0 C).2.1 g) M := by
  rw [ob_sA (by omega), sA_2]; exact h
def PO (pe : Nat → Nat) (S nv v : Nat) (R : Option (Nat → Nat)) (C C' : Nat → Int32) : Prop := (∀ u, u < v → C' u = C u) ∧ ∀ B, R = some B → ∀ u, u < nv → tb S u = true → B u < 9 ∧ C' u = nI (B u)
theorem pl_loop (h : RG nv K Y I F Fo ro pe fe fs fg (w.1 g) (w.2.1 g) M) (h1 : g = 24 ∨ g = 25) {S v : Nat} (hS : S < 256) (hv : v < nv) {f : (Nat → Nat) → Option (Nat → Nat)} {self : Nat → Int32 → Int32 → Mem → Option (Int32 × Mem)} {A : Nat → Nat}
    (hself : ∀ A C, (∀ u, u < v + 1 → tb S u = true → A u < 9 ∧ C u = nI (A u)) → ∃ C', self g (nI S) (nI (v + 1)) (sA w 30 0 C) = some (if (f A).isSome then nI 1 else nI 0, sA w 30 0 C') ∧ PO pe S nv (v + 1) (f A) C C') :
    ∀ j o n C, o + j = pe v → j < n → (∀ u, u < v → tb S u = true → A u < 9 ∧ C u = nI (A u)) → ∃ C', f0_place_41 self g (nI S) (nI v) n (nI o) (sA w 30 0 C) = some (if (tr f (fun o => okf pe S v o A v 0) A v j o).isSome then nI 1 else nI 0, sA w 30 0 C') ∧ PO pe S nv v (tr f (fun o => okf pe S v o A v 0) A v j o) C C' := by
  have hnv := h.1.1
  obtain ⟨⟨y1, y2, y3, y4⟩, -⟩ := h.2.2.2.2.2.2.2.2.1 v hv
  intro j
  induction j with
  | zero =>
    intro o n C ho hn hC
    obtain ⟨n, rfl⟩ : ∃ m, n = m + 1 := ⟨n - 1, by omega⟩
    have p2 := per_ok (RG30 h h1 C) hv
    refine ⟨C, ?_, fun u hu => rfl, fun B hB => by cases hB⟩
    rw [f0_place_41]
    simp (disch := omega) only [bE, bO, bV, bK, nI_lit, nI_add, lt_T, lt_F, le_T, le_F, eq_T, eq_F, ltm_T, ltm_F, lem_T, lem_F, eqm_F, meq_F, cl_nI, nle_T, nle_F, nlt_T, nlt_F, ↓reduceIte, or_true, true_or, or_false, false_or, and_true, true_and, and_false, false_and, not_true_eq_false, not_false_eq_true, or_self, and_self, true_implies, ite_self, p2]
    rfl
  | succ j ih =>
    intro o n C ho hn hC
    obtain ⟨n, rfl⟩ : ∃ m, n = m + 1 := ⟨n - 1, by omega⟩
    have p2 := per_ok (RG30 h h1 C) hv
    have m1 := mo_ok (RG30 h h1 C) (S := S) (v := v) (o := o) (A := A) hS hv (by omega) (by rw [kx_sA]; exact hC) v 0 100000 (by omega) (by omega)
    rw [f0_place_41, tr]
    unfold f0_meetsOneBefore
    cases hk : okf pe S v o A v 0 with
    | false =>
      rw [hk, if_neg (by decide)] at m1
      obtain ⟨C', c1, c2⟩ := ih (o + 1) n C (by omega) (by omega) hC
      refine ⟨C', ?_, ?_⟩
      · simp (disch := omega) only [bE, bO, bV, bK, nI_lit, nI_add, lt_T, lt_F, le_T, le_F, eq_T, eq_F, ltm_T, ltm_F, lem_T, lem_F, eqm_F, meq_F, cl_nI, nle_T, nle_F, nlt_T, nlt_F, ↓reduceIte, or_true, true_or, or_false, false_or, and_true, true_and, and_false, false_and, not_true_eq_false, not_false_eq_true, or_self, and_self, true_implies, ite_self, p2, m1, Bool.false_eq_true]
        exact c1
      · simp only [Bool.false_eq_true, if_false]; exact c2
    | true =>
      rw [hk, if_pos rfl] at m1
      obtain ⟨C1, d1, d2, d3⟩ := hself (uN A v o) (upd C v (nI o)) (fun u hu hb => by
        by_cases hz : u = v
        · subst hz; rw [uN_s, upd_s]; exact ⟨by omega, rfl⟩
        · rw [uN_n hz, upd_n hz]; exact hC u (by omega) hb)
      have dd : ∀ u, u < v → C1 u = C u := fun u hu => by rw [d2 u (by omega), upd_n (by omega)]
      cases hf : f (uN A v o) with
      | some B =>
        rw [hf] at d1 d3
        refine ⟨C1, ?_, dd, ?_⟩
        · simp (disch := omega) only [bE, bO, bV, bK, nI_lit, nI_add, lt_T, lt_F, le_T, le_F, eq_T, eq_F, ltm_T, ltm_F, lem_T, lem_F, eqm_F, meq_F, cl_nI, nle_T, nle_F, nlt_T, nlt_F, ↓reduceIte, or_true, true_or, or_false, false_or, and_true, true_and, and_false, false_and, not_true_eq_false, not_false_eq_true, or_self, and_self, true_implies, ite_self, p2, m1, sI_A, d1, Option.isSome_some, if_true]
        · simp only [if_true]
          exact d3
      | none =>
        rw [hf] at d1
        obtain ⟨C', c1, c2, c3⟩ := ih (o + 1) n C1 (by omega) (by omega) (fun u hu hb => by rw [dd u hu]; exact hC u hu hb)
        refine ⟨C', ?_, fun u hu => (c2 u hu).trans (dd u hu), ?_⟩
        · simp (disch := omega) only [bE, bO, bV, bK, nI_lit, nI_add, lt_T, lt_F, le_T, le_F, eq_T, eq_F, ltm_T, ltm_F, lem_T, lem_F, eqm_F, meq_F, cl_nI, nle_T, nle_F, nlt_T, nlt_F, ↓reduceIte, or_true, true_or, or_false, false_or, and_true, true_and, and_false, false_and, not_true_eq_false, not_false_eq_true, or_self, and_self, true_implies, ite_self, p2, m1, sI_A, d1, Option.isSome_none, Bool.false_eq_true, if_true]
          exact c1
        · simp only [if_true]
          exact c3
theorem pl_ok (h : RG nv K Y I F Fo ro pe fe fs fg (w.1 g) (w.2.1 g) M) (h1 : g = 24 ∨ g = 25) {S : Nat} (hS : S < 256) : ∀ k n, k ≤ nv → k < n → ∀ A C, (∀ u, u < nv - k → tb S u = true → A u < 9 ∧ C u = nI (A u)) → ∃ C', f0_place n g (nI S) (nI (nv - k)) (sA w 30 0 C) = some (if (sr pe S nv k A).isSome then nI 1 else nI 0, sA w 30 0 C') ∧ PO pe S nv (nv - k) (sr pe S nv k A) C C' := by
  have hnv := h.1.1
  have h4 := h.2.2.2.2.2.1
  intro k
  induction k with
  | zero =>
    intro n hk hn A C hC
    obtain ⟨n, rfl⟩ : ∃ m, n = m + 1 := ⟨n - 1, by omega⟩
    have e4 : (sA w 30 0 C).1 g 4 0 = nI nv := by rw [ob_sA (by omega)]; exact h4.1
    refine ⟨C, ?_, fun u hu => rfl, fun B hB => ?_⟩
    · rw [f0_place]
      unfold f0_placeB
      simp (disch := omega) only [bE, bO, bV, bK, nI_lit, nI_add, lt_T, lt_F, le_T, le_F, eq_T, eq_F, ltm_T, ltm_F, lem_T, lem_F, eqm_F, meq_F, cl_nI, nle_T, nle_F, nlt_T, nlt_F, ↓reduceIte, or_true, true_or, or_false, false_or, and_true, true_and, and_false, false_and, not_true_eq_false, not_false_eq_true, or_self, and_self, true_implies, ite_self, e4]
      rfl
    · cases hB; exact hC
  | succ k ih =>
    intro n hk hn A C hC
    obtain ⟨n, rfl⟩ : ∃ m, n = m + 1 := ⟨n - 1, by omega⟩
    obtain ⟨v, hv⟩ : ∃ v, v = nv - (k + 1) := ⟨_, rfl⟩
    have hv1 : nv - k = v + 1 := by omega
    have i1 := ih n (by omega) (by omega)
    rw [hv1] at i1
    have e4 : (sA w 30 0 C).1 g 4 0 = nI nv := by rw [ob_sA (by omega)]; exact h4.1
    have b := bt_sh S hS v (by omega)
    rw [f0_place, sr, ← hv]
    rw [← hv] at hC
    unfold f0_placeB
    cases hb : tb S v with
    | true =>
      rw [hb, if_pos rfl] at b
      obtain ⟨C', c1, c2⟩ := pl_loop h h1 hS (show v < nv by omega) (fun A C => i1 A C) (pe v) 0 100000 C (by omega) (by have := (h.2.2.2.2.2.2.2.2.1 v (by omega)).1.2.2.1; omega) hC
      refine ⟨C', ?_, ?_⟩
      · simp (disch := omega) only [bE, bO, bV, bK, nI_lit, nI_add, lt_T, lt_F, le_T, le_F, eq_T, eq_F, ltm_T, ltm_F, lem_T, lem_F, eqm_F, meq_F, cl_nI, nle_T, nle_F, nlt_T, nlt_F, ↓reduceIte, or_true, true_or, or_false, false_or, and_true, true_and, and_false, false_and, not_true_eq_false, not_false_eq_true, or_self, and_self, true_implies, ite_self, e4, b, if_true]
        exact c1
      · rw [if_pos rfl]; exact c2
    | false =>
      rw [hb, if_neg (by decide)] at b
      obtain ⟨C', c1, c2, c3⟩ := i1 A C (fun u hu hu2 => by
        by_cases hz : u = v
        · subst hz; rw [hb] at hu2; cases hu2
        · exact hC u (by omega) hu2)
      refine ⟨C', ?_, fun u hu => c2 u (by omega), ?_⟩
      · cases hs : (sr pe S nv k A).isSome with
        | true =>
          rw [hs, if_pos rfl] at c1
          simp (disch := omega) only [bE, bO, bV, bK, nI_lit, nI_add, lt_T, lt_F, le_T, le_F, eq_T, eq_F, ltm_T, ltm_F, lem_T, lem_F, eqm_F, meq_F, cl_nI, nle_T, nle_F, nlt_T, nlt_F, ↓reduceIte, or_true, true_or, or_false, false_or, and_true, true_and, and_false, false_and, not_true_eq_false, not_false_eq_true, or_self, and_self, true_implies, ite_self, e4, b, c1, Bool.false_eq_true, if_false, hs, if_true, show nI 1 &&& nI 1 = nI 1 from rfl]
        | false =>
          rw [hs, if_neg (by decide)] at c1
          simp (disch := omega) only [bE, bO, bV, bK, nI_lit, nI_add, lt_T, lt_F, le_T, le_F, eq_T, eq_F, ltm_T, ltm_F, lem_T, lem_F, eqm_F, meq_F, cl_nI, nle_T, nle_F, nlt_T, nlt_F, ↓reduceIte, or_true, true_or, or_false, false_or, and_true, true_and, and_false, false_and, not_true_eq_false, not_false_eq_true, or_self, and_self, true_implies, ite_self, e4, b, c1, Bool.false_eq_true, if_false, hs, show nI 0 &&& nI 1 = nI 0 from rfl]
      · rw [if_neg (by decide)]; exact c3
end Rock
