/-! certain: the search -/
def okf (pe : Nat → Nat) (S v o : Nat) (A : Nat → Nat) : Nat → Nat → Bool
  | 0, _ => true
  | k + 1, u => (!tb S u || decide (¬ A u % gc (pe u) (pe v) = o % gc (pe u) (pe v))) && okf pe S v o A k (u + 1)
def uN (A : Nat → Nat) (v o : Nat) : Nat → Nat := fun u => if u = v then o else A u
def tr (f : (Nat → Nat) → Option (Nat → Nat)) (ok : Nat → Bool) (A : Nat → Nat) (v : Nat) : Nat → Nat → Option (Nat → Nat)
  | 0, _ => none
  | j + 1, o => if ok o then (match f (uN A v o) with
    | some B => some B
    | none => tr f ok A v j (o + 1)) else tr f ok A v j (o + 1)
def sr (pe : Nat → Nat) (S nv : Nat) : Nat → (Nat → Nat) → Option (Nat → Nat)
  | 0, A => some A
  | k + 1, A => if tb S (nv - (k + 1)) then tr (sr pe S nv k) (fun o => okf pe S (nv - (k + 1)) o A (nv - (k + 1)) 0) A (nv - (k + 1)) (pe (nv - (k + 1))) 0 else sr pe S nv k A
section Rock
variable {nv K Y I F Fo : Nat} {ro pe fe fs fg : Nat → Nat} {G : Nat → Nat → Int32} {GL : Nat → Nat → Int64} {M : Nat → Nat → Int32} {w : Mem} {g : Nat}
theorem okf_s {S v o k u : Nat} {A : Nat → Nat} : okf pe S v o A (k + 1) u = ((!tb S u || decide (¬ A u % gc (pe u) (pe v) = o % gc (pe u) (pe v))) && okf pe S v o A k (u + 1)) := rfl
theorem mo_ok (h : RG nv K Y I F Fo ro pe fe fs fg (w.1 g) (w.2.1 g) M) {S v o : Nat} {A : Nat → Nat} (hS : S < 256) (hv : v < nv) (ho : o < 9) (hA : ∀ u, u < v → tb S u = true → A u < 9 ∧ w.1 30 0 u = nI (A u)) : ∀ k u n, u + k = v → k < n → f0_meetsOneBefore_3 g (nI S) (nI v) (nI o) n (nI u) w = some (if okf pe S v o A k u then nI 0 else nI 1, w) := by
  have hnv := h.1.1
  intro k
  induction k with
  | zero =>
    intro u n hu hn
    obtain ⟨n, rfl⟩ : ∃ m, n = m + 1 := ⟨n - 1, by omega⟩
    obtain rfl : u = v := by omega
    rw [f0_meetsOneBefore_3]
    simp (disch := omega) only [bE, bO, bV, bK, nI_lit, nI_add, lt_T, lt_F, le_T, le_F, eq_T, eq_F, ltm_T, ltm_F, lem_T, lem_F, eqm_F, meq_F, cl_nI, nle_T, nle_F, nlt_T, nlt_F, ↓reduceIte, or_true, true_or, or_false, false_or, and_true, true_and, and_false, false_and, not_true_eq_false, not_false_eq_true, or_self, and_self, true_implies, ite_self]
    rfl
  | succ k ih =>
    intro u n hu hn
    obtain ⟨n, rfl⟩ : ∃ m, n = m + 1 := ⟨n - 1, by omega⟩
    have i1 := ih (u + 1) n (by omega) (by omega)
    have b := bt_sh S hS u (by omega)
    rw [f0_meetsOneBefore_3, okf_s]
    cases hb : tb S u with
    | false =>
      rw [hb, if_neg (by decide)] at b
      simp (disch := omega) only [bE, bO, bV, bK, nI_lit, nI_add, lt_T, lt_F, le_T, le_F, eq_T, eq_F, ltm_T, ltm_F, lem_T, lem_F, eqm_F, meq_F, cl_nI, nle_T, nle_F, nlt_T, nlt_F, ↓reduceIte, or_true, true_or, or_false, false_or, and_true, true_and, and_false, false_and, not_true_eq_false, not_false_eq_true, or_self, and_self, true_implies, ite_self, b, Bool.not_false, Bool.true_or, Bool.true_and]
      exact i1
    | true =>
      rw [hb, if_pos rfl] at b
      obtain ⟨a1, a2⟩ := hA u (by omega) hb
      have p1 := per_ok h (v := u) (by omega)
      have p2 := per_ok h hv
      obtain ⟨⟨y1, y2, y3, y4⟩, -⟩ := h.2.2.2.2.2.2.2.2.1 v hv
      obtain ⟨⟨z1, z2, z3, z4⟩, -⟩ := h.2.2.2.2.2.2.2.2.1 u (by omega)
      have c1 := cd_ok (a := pe u) (b := pe v) (by omega) (by omega) w
      have c2 := gc_c (pe u) (by omega) (pe v) (by omega)
      have c3 := jmeet (gc (pe u) (pe v)) c2.2 o ho (A u) a1 c2.1
      by_cases hz : A u % gc (pe u) (pe v) = o % gc (pe u) (pe v)
      · have c4 : jrem (nI o - nI (A u)) (nI (gc (pe u) (pe v))) = nI 0 := c3.mpr hz
        rw [decide_eq_false (fun q => q hz)]
        simp (disch := omega) only [bE, bO, bV, bK, nI_lit, nI_add, lt_T, lt_F, le_T, le_F, eq_T, eq_F, ltm_T, ltm_F, lem_T, lem_F, eqm_F, meq_F, cl_nI, nle_T, nle_F, nlt_T, nlt_F, ↓reduceIte, or_true, true_or, or_false, false_or, and_true, true_and, and_false, false_and, not_true_eq_false, not_false_eq_true, or_self, and_self, true_implies, ite_self, b, p1, p2, c1, a2, c4, Bool.not_true, Bool.false_or, Bool.or_false, Bool.false_and, Bool.false_eq_true]
      · have c4 : (jrem (nI o - nI (A u)) (nI (gc (pe u) (pe v))) = nI 0) = False := eq_false (fun q => hz (c3.mp q))
        rw [decide_eq_true hz]
        simp (disch := omega) only [bE, bO, bV, bK, nI_lit, nI_add, lt_T, lt_F, le_T, le_F, eq_T, eq_F, ltm_T, ltm_F, lem_T, lem_F, eqm_F, meq_F, cl_nI, nle_T, nle_F, nlt_T, nlt_F, ↓reduceIte, or_true, true_or, or_false, false_or, and_true, true_and, and_false, false_and, not_true_eq_false, not_false_eq_true, or_self, and_self, true_implies, ite_self, b, p1, p2, c1, a2, c4, Bool.not_true, Bool.false_or, Bool.or_true, Bool.true_and]
        exact i1
end Rock
