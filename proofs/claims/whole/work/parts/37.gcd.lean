/-! certain: common divisors -/
def cdv (a b : Nat) : Nat → Nat
  | 0 => 1
  | x + 1 => if x = 0 then 1 else if a % (x + 1) = 0 ∧ b % (x + 1) = 0 then x + 1 else cdv a b x
def euc : Nat → Nat → Nat → Nat
  | 0, x, _ => x
  | n + 1, x, y => if y = 0 then x else euc n y (x % y)
def gc (a b : Nat) : Nat := cdv a b (min a b)
theorem gc_a : ∀ a, a < 10 → ∀ b, b < 10 → (a = 0 ∨ b = 0 ∨ gc a b = euc 20 a b) := by decide +kernel
theorem gc_b : ∀ a, a < 10 → ∀ b, b < 10 → gc a b = gc b a := by decide +kernel
theorem gc_c : ∀ a, a < 10 → ∀ b, b < 10 → (1 ≤ gc a b ∧ gc a b < 10) := by decide +kernel
theorem gc_ok (a : Nat) (ha : a < 10) (ha1 : 1 ≤ a) (b : Nat) (hb : b < 10) (hb1 : 1 ≤ b) : gc a b = euc 20 a b ∧ gc a b = gc b a ∧ 1 ≤ gc a b ∧ gc a b < 10 := by
  refine ⟨?_, gc_b a ha b hb, gc_c a ha b hb⟩
  rcases gc_a a ha b hb with h | h | h
  · omega
  · omega
  · exact h
theorem cdv_T {a b x : Nat} (h0 : 0 < x) (h1 : a % (x + 1) = 0) (h2 : b % (x + 1) = 0) : cdv a b (x + 1) = x + 1 := by
  rw [cdv, if_neg (show ¬ x = 0 by omega), if_pos (show a % (x + 1) = 0 ∧ b % (x + 1) = 0 from ⟨h1, h2⟩)]
theorem cdv_F {a b x : Nat} (h0 : 0 < x) (h1 : ¬ (a % (x + 1) = 0 ∧ b % (x + 1) = 0)) : cdv a b (x + 1) = cdv a b x := by
  rw [cdv, if_neg (show ¬ x = 0 by omega), if_neg h1]
theorem cdv_ok {a b : Nat} (ha : a < 10) (hb : b < 10) (w : Mem) : ∀ x n, x < 10 → x < n → f0_commonDivisor_6 (nI a) (nI b) n (nI x) w = some (nI (cdv a b x), w) := by
  intro x
  induction x with
  | zero =>
    intro n hx hn
    obtain ⟨n, rfl⟩ : ∃ m, n = m + 1 := ⟨n - 1, by omega⟩
    rw [f0_commonDivisor_6]
    simp (disch := omega) only [bE, bO, bV, bK, nI_lit, nI_add, lt_T, lt_F, le_T, le_F, eq_T, eq_F, ltm_T, ltm_F, lem_T, lem_F, eqm_F, meq_F, cl_nI, nle_T, nle_F, nlt_T, nlt_F, ↓reduceIte, or_true, true_or, or_false, false_or, and_true, true_and, and_false, false_and, not_true_eq_false, not_false_eq_true, or_self, and_self, true_implies, ite_self]
    rfl
  | succ x ih =>
    intro n hx hn
    obtain ⟨n, rfl⟩ : ∃ m, n = m + 1 := ⟨n - 1, by omega⟩
    have i1 := ih n (by omega) (by omega)
    have r1 := jr (a := a) (d := x + 1) (by omega) (by omega) (by omega)
    have r2 := jr (a := b) (d := x + 1) (by omega) (by omega) (by omega)
    have m1 := Nat.mod_lt a (show x + 1 > 0 by omega)
    have m2 := Nat.mod_lt b (show x + 1 > 0 by omega)
    rw [f0_commonDivisor_6]
    rcases Nat.eq_zero_or_pos x with rfl | h0
    · simp (disch := omega) only [bE, bO, bV, bK, nI_lit, nI_add, lt_T, lt_F, le_T, le_F, eq_T, eq_F, ltm_T, ltm_F, lem_T, lem_F, eqm_F, meq_F, cl_nI, nle_T, nle_F, nlt_T, nlt_F, ↓reduceIte, or_true, true_or, or_false, false_or, and_true, true_and, and_false, false_and, not_true_eq_false, not_false_eq_true, or_self, and_self, true_implies, ite_self]
      rfl
    · rw [pk_m1]
      by_cases h1 : a % (x + 1) = 0
      · by_cases h2 : b % (x + 1) = 0
        · rw [cdv_T h0 h1 h2]
          simp (disch := omega) only [bE, bO, bV, bK, nI_lit, nI_add, lt_T, lt_F, le_T, le_F, eq_T, eq_F, ltm_T, ltm_F, lem_T, lem_F, eqm_F, meq_F, cl_nI, nle_T, nle_F, nlt_T, nlt_F, ↓reduceIte, or_true, true_or, or_false, false_or, and_true, true_and, and_false, false_and, not_true_eq_false, not_false_eq_true, or_self, and_self, true_implies, ite_self, r1, r2, h1, h2]
        · rw [cdv_F h0 (fun z => h2 z.2)]
          simp (disch := omega) only [bE, bO, bV, bK, nI_lit, nI_add, lt_T, lt_F, le_T, le_F, eq_T, eq_F, ltm_T, ltm_F, lem_T, lem_F, eqm_F, meq_F, cl_nI, nle_T, nle_F, nlt_T, nlt_F, ↓reduceIte, or_true, true_or, or_false, false_or, and_true, true_and, and_false, false_and, not_true_eq_false, not_false_eq_true, or_self, and_self, true_implies, ite_self, r1, r2, h1]
          exact i1
      · rw [cdv_F h0 (fun z => h1 z.1)]
        simp (disch := omega) only [bE, bO, bV, bK, nI_lit, nI_add, lt_T, lt_F, le_T, le_F, eq_T, eq_F, ltm_T, ltm_F, lem_T, lem_F, eqm_F, meq_F, cl_nI, nle_T, nle_F, nlt_T, nlt_F, ↓reduceIte, or_true, true_or, or_false, false_or, and_true, true_and, and_false, false_and, not_true_eq_false, not_false_eq_true, or_self, and_self, true_implies, ite_self, r1]
        exact i1
theorem cd_ok {a b : Nat} (ha : a < 10) (hb : b < 10) (w : Mem) : f0_commonDivisor (nI a) (nI b) w = some (nI (gc a b), w) := by
  unfold f0_commonDivisor gc
  have e : jmin (nI a) (nI b) = nI (min a b) := by
    unfold jmin
    by_cases h : a ≤ b
    · rw [if_neg (show ¬ nI b < nI a from Int32.not_lt.mpr (nI_le h (by omega))), Nat.min_eq_left h]
    · rw [if_pos (show nI b < nI a from (nI_ltI (by omega) (by omega)).mpr (by omega)), Nat.min_eq_right (by omega)]
  rw [e, bE]
  exact cdv_ok ha hb w (min a b) 100000 (by omega) (by omega)
theorem euc_ok {a0 a1 : Int32} (w : Mem) : ∀ k n x y, x < 10 → y < 10 → y < k → k < n → f8_common_4 a0 a1 n (nI x) (nI y) w = some (nI (euc k x y), w) := by
  intro k
  induction k with
  | zero => intro n x y hx hy hk hn; omega
  | succ k ih =>
    intro n x y hx hy hk hn
    obtain ⟨n, rfl⟩ : ∃ m, n = m + 1 := ⟨n - 1, by omega⟩
    rw [f8_common_4, euc]
    by_cases h : y = 0
    · subst h
      rw [if_pos rfl]
      simp (disch := omega) only [bE, bO, bV, bK, nI_lit, nI_add, lt_T, lt_F, le_T, le_F, eq_T, eq_F, ltm_T, ltm_F, lem_T, lem_F, eqm_F, meq_F, cl_nI, nle_T, nle_F, nlt_T, nlt_F, ↓reduceIte, or_true, true_or, or_false, false_or, and_true, true_and, and_false, false_and, not_true_eq_false, not_false_eq_true, or_self, and_self, true_implies, ite_self]
    · have r1 := jr (a := x) (d := y) (by omega) (by omega) (by omega)
      have m1 := Nat.mod_lt x (show y > 0 by omega)
      rw [if_neg h]
      simp (disch := omega) only [bE, bO, bV, bK, nI_lit, nI_add, lt_T, lt_F, le_T, le_F, eq_T, eq_F, ltm_T, ltm_F, lem_T, lem_F, eqm_F, meq_F, cl_nI, nle_T, nle_F, nlt_T, nlt_F, ↓reduceIte, or_true, true_or, or_false, false_or, and_true, true_and, and_false, false_and, not_true_eq_false, not_false_eq_true, or_self, and_self, true_implies, ite_self, r1]
      exact ih n y (x % y) (by omega) (by omega) (by omega) (by omega)
theorem co_ok {a b : Nat} (ha : a < 10) (ha1 : 1 ≤ a) (hb : b < 10) (hb1 : 1 ≤ b) (w : Mem) : f8_common (nI a) (nI b) w = some (nI (gc a b), w) := by
  rw [(gc_ok a ha ha1 b hb hb1).1]
  exact euc_ok w 20 100000 a b ha hb (by omega) (by omega)
theorem jmeet : ∀ c, c < 10 → ∀ o, o < 9 → ∀ a, a < 9 → 1 ≤ c → (jrem (nI o - nI a) (nI c) = 0 ↔ a % c = o % c) := by decide +kernel
