section Rock
variable {nv : Nat} {pe : Nat → Nat} {w : Mem}
theorem fr_zero {S v : Nat} (hv : v < nv) (hnv : nv ≤ 8) (hp : ∀ u, u < nv → 1 ≤ pe u ∧ pe u ≤ 9 ∧ w.1 32 5 u = nI (pe u)) : ∀ k u n, u + k = v → k < n → f8_isFree_5 (nI v) (nI S) n (nI 0) (nI u) w = some (nI 0, w) := by
  intro k
  induction k with
  | zero =>
    intro u n hu hn
    obtain ⟨n, rfl⟩ : ∃ m, n = m + 1 := ⟨n - 1, by omega⟩
    obtain rfl : u = v := by omega
    rw [f8_isFree_5]
    simp (disch := omega) only [bE, bO, bV, bK, nI_lit, nI_add, lt_T, lt_F, le_T, le_F, eq_T, eq_F, ltm_T, ltm_F, lem_T, lem_F, eqm_F, meq_F, cl_nI, nle_T, nle_F, nlt_T, nlt_F, ↓reduceIte, or_true, true_or, or_false, false_or, and_true, true_and, and_false, false_and, not_true_eq_false, not_false_eq_true, or_self, and_self, true_implies, ite_self, show nI 0 &&& nI 1 = nI 0 from rfl]
  | succ k ih =>
    intro u n hu hn
    obtain ⟨n, rfl⟩ : ∃ m, n = m + 1 := ⟨n - 1, by omega⟩
    obtain ⟨x1, x2, x3⟩ := hp v hv
    obtain ⟨y1, y2, y3⟩ := hp u (by omega)
    have c1 := co_ok (a := pe v) (b := pe u) (by omega) x1 (by omega) y1 w
    rw [f8_isFree_5]
    simp (disch := omega) only [bE, bO, bV, bK, nI_lit, nI_add, lt_T, lt_F, le_T, le_F, eq_T, eq_F, ltm_T, ltm_F, lem_T, lem_F, eqm_F, meq_F, cl_nI, nle_T, nle_F, nlt_T, nlt_F, ↓reduceIte, or_true, true_or, or_false, false_or, and_true, true_and, and_false, false_and, not_true_eq_false, not_false_eq_true, or_self, and_self, true_implies, ite_self, x3, y3, c1]
    exact ih (u + 1) n (by omega) (by omega)
theorem fr_ok {S v o : Nat} {A : Nat → Nat} (hS : S < 256) (hv : v < nv) (hnv : nv ≤ 8) (hp : ∀ u, u < nv → 1 ≤ pe u ∧ pe u ≤ 9 ∧ w.1 32 5 u = nI (pe u)) (ho : o < 9) (eo : w.1 32 32 v = nI o) (hA : ∀ u, u < v → tb S u = true → A u < 9 ∧ w.1 32 32 u = nI (A u)) : ∀ k u n, u + k = v → k < n → f8_isFree_5 (nI v) (nI S) n (nI 1) (nI u) w = some (if okf pe S v o A k u then nI 1 else nI 0, w) := by
  intro k
  induction k with
  | zero =>
    intro u n hu hn
    obtain ⟨n, rfl⟩ : ∃ m, n = m + 1 := ⟨n - 1, by omega⟩
    obtain rfl : u = v := by omega
    rw [f8_isFree_5]
    simp (disch := omega) only [bE, bO, bV, bK, nI_lit, nI_add, lt_T, lt_F, le_T, le_F, eq_T, eq_F, ltm_T, ltm_F, lem_T, lem_F, eqm_F, meq_F, cl_nI, nle_T, nle_F, nlt_T, nlt_F, ↓reduceIte, or_true, true_or, or_false, false_or, and_true, true_and, and_false, false_and, not_true_eq_false, not_false_eq_true, or_self, and_self, true_implies, ite_self, show nI 1 &&& nI 1 = nI 1 from rfl]
    rfl
  | succ k ih =>
    intro u n hu hn
    obtain ⟨n, rfl⟩ : ∃ m, n = m + 1 := ⟨n - 1, by omega⟩
    obtain ⟨x1, x2, x3⟩ := hp v hv
    obtain ⟨y1, y2, y3⟩ := hp u (by omega)
    have c1 := co_ok (a := pe v) (b := pe u) (by omega) x1 (by omega) y1 w
    rw [gc_b (pe v) (by omega) (pe u) (by omega)] at c1
    have c2 := gc_c (pe u) (by omega) (pe v) (by omega)
    have i1 := ih (u + 1) n (by omega) (by omega)
    have i0 := fr_zero (S := S) hv hnv hp k (u + 1) n (by omega) (by omega)
    have b := hasm_ok (w := w) (v := u) hS (by omega)
    rw [f8_isFree_5, okf_s]
    cases hb : tb S u with
    | false =>
      rw [hb, if_neg (by decide)] at b
      simp (disch := omega) only [bE, bO, bV, bK, nI_lit, nI_add, lt_T, lt_F, le_T, le_F, eq_T, eq_F, ltm_T, ltm_F, lem_T, lem_F, eqm_F, meq_F, cl_nI, nle_T, nle_F, nlt_T, nlt_F, ↓reduceIte, or_true, true_or, or_false, false_or, and_true, true_and, and_false, false_and, not_true_eq_false, not_false_eq_true, or_self, and_self, true_implies, ite_self, x3, y3, c1, b, Bool.not_false, Bool.true_or, Bool.true_and]
      exact i1
    | true =>
      rw [hb, if_pos rfl] at b
      obtain ⟨a1, a2⟩ := hA u (by omega) hb
      have r1 := jr (a := A u) (d := gc (pe u) (pe v)) (by omega) (by omega) (by omega)
      have r2 := jr (a := o) (d := gc (pe u) (pe v)) (by omega) (by omega) (by omega)
      have m1 := Nat.mod_lt (A u) (show gc (pe u) (pe v) > 0 by omega)
      have m2 := Nat.mod_lt o (show gc (pe u) (pe v) > 0 by omega)
      by_cases hz : A u % gc (pe u) (pe v) = o % gc (pe u) (pe v)
      · rw [decide_eq_false (fun q => q hz)]
        simp (disch := omega) only [bE, bO, bV, bK, nI_lit, nI_add, lt_T, lt_F, le_T, le_F, eq_T, eq_F, ltm_T, ltm_F, lem_T, lem_F, eqm_F, meq_F, cl_nI, nle_T, nle_F, nlt_T, nlt_F, ↓reduceIte, or_true, true_or, or_false, false_or, and_true, true_and, and_false, false_and, not_true_eq_false, not_false_eq_true, or_self, and_self, true_implies, ite_self, x3, y3, c1, b, a2, eo, r1, r2, hz, Bool.not_true, Bool.false_or, Bool.or_false, Bool.false_and, Bool.false_eq_true]
        exact i0
      · rw [decide_eq_true hz]
        simp (disch := omega) only [bE, bO, bV, bK, nI_lit, nI_add, lt_T, lt_F, le_T, le_F, eq_T, eq_F, ltm_T, ltm_F, lem_T, lem_F, eqm_F, meq_F, cl_nI, nle_T, nle_F, nlt_T, nlt_F, ↓reduceIte, or_true, true_or, or_false, false_or, and_true, true_and, and_false, false_and, not_true_eq_false, not_false_eq_true, or_self, and_self, true_implies, ite_self, x3, y3, c1, b, a2, eo, r1, r2, Bool.not_true, Bool.false_or, Bool.or_true, Bool.true_and]
        exact i1
/-- the next of a set, and the one before -/
def nx (S nv : Nat) : Nat → Nat → Nat
  | 0, q => q
  | k + 1, q => if tb S q then q else nx S nv k (q + 1)
theorem nx_ok {S : Nat} {a : Int32} (hS : S < 256) (hnv : nv ≤ 8) (e3 : w.1 32 3 0 = nI nv) : ∀ k q n, q + k = nv → k < n → f8_next_4 (nI S) a n (nI q) w = some (nI (nx S nv k q), w) := by
  intro k
  induction k with
  | zero =>
    intro q n hq hn
    obtain ⟨n, rfl⟩ : ∃ m, n = m + 1 := ⟨n - 1, by omega⟩
    obtain rfl : q = nv := by omega
    rw [f8_next_4]
    simp (disch := omega) only [bE, bO, bV, bK, nI_lit, nI_add, lt_T, lt_F, le_T, le_F, eq_T, eq_F, ltm_T, ltm_F, lem_T, lem_F, eqm_F, meq_F, cl_nI, nle_T, nle_F, nlt_T, nlt_F, ↓reduceIte, or_true, true_or, or_false, false_or, and_true, true_and, and_false, false_and, not_true_eq_false, not_false_eq_true, or_self, and_self, true_implies, ite_self, e3]
    rfl
  | succ k ih =>
    intro q n hq hn
    obtain ⟨n, rfl⟩ : ∃ m, n = m + 1 := ⟨n - 1, by omega⟩
    have b := hasm_ok (w := w) (v := q) hS (by omega)
    rw [f8_next_4, nx]
    cases hb : tb S q with
    | true =>
      rw [hb, if_pos rfl] at b
      simp (disch := omega) only [bE, bO, bV, bK, nI_lit, nI_add, lt_T, lt_F, le_T, le_F, eq_T, eq_F, ltm_T, ltm_F, lem_T, lem_F, eqm_F, meq_F, cl_nI, nle_T, nle_F, nlt_T, nlt_F, ↓reduceIte, or_true, true_or, or_false, false_or, and_true, true_and, and_false, false_and, not_true_eq_false, not_false_eq_true, or_self, and_self, true_implies, ite_self, e3, b, if_true]
    | false =>
      rw [hb, if_neg (by decide)] at b
      simp (disch := omega) only [bE, bO, bV, bK, nI_lit, nI_add, lt_T, lt_F, le_T, le_F, eq_T, eq_F, ltm_T, ltm_F, lem_T, lem_F, eqm_F, meq_F, cl_nI, nle_T, nle_F, nlt_T, nlt_F, ↓reduceIte, or_true, true_or, or_false, false_or, and_true, true_and, and_false, false_and, not_true_eq_false, not_false_eq_true, or_self, and_self, true_implies, ite_self, e3, b, Bool.false_eq_true]
      exact ih (q + 1) n (by omega) (by omega)
/-- going down: q is one more than the place looked at; 0: none -/
def bf (S : Nat) : Nat → Nat
  | 0 => 0
  | q + 1 => if tb S q then q + 1 else bf S q
theorem bf_ok {S : Nat} {a : Int32} (hS : S < 256) : ∀ q n, q ≤ 8 → q < n → f8_before_4 (nI S) a n (nI q + (-1)) w = some (nI (bf S q) + (-1), w) := by
  intro q
  induction q with
  | zero =>
    intro n hq hn
    obtain ⟨n, rfl⟩ : ∃ m, n = m + 1 := ⟨n - 1, by omega⟩
    rw [f8_before_4, if_pos (by decide)]; rfl
  | succ q ih =>
    intro n hq hn
    obtain ⟨n, rfl⟩ : ∃ m, n = m + 1 := ⟨n - 1, by omega⟩
    have b := hasm_ok (w := w) (v := q) hS (by omega)
    have i1 := ih n (by omega) (by omega)
    rw [f8_before_4, bf, pk_m1, if_neg (nI_pos (by omega))]
    cases hb : tb S q with
    | true =>
      rw [hb, if_pos rfl] at b
      rw [b, bO, if_neg (by decide), if_pos rfl, pk_m1]
    | false =>
      rw [hb, if_neg (by decide)] at b
      rw [b, bO, if_pos (show nI 0 = (0 : Int32) from rfl), if_neg (show ¬ false = true by decide), bE]
      exact i1
end Rock
