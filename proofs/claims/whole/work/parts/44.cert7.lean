/-! certain: how often they come, whether they can pass each other -/
def pts (pe : Nat → Nat) (S : Nat) : Nat → Nat → Nat → Nat
  | 0, _, a => a
  | k + 1, u, a => pts pe S k (u + 1) (if tb S u then a + 2520 / pe u else a)
theorem rdiv : ∀ p, p < 10 → (2520 : Int32) / nI p = nI (2520 / p) := by decide +kernel
theorem msk_b : ∀ k, k < 9 → ∀ m, m < 2 ^ k → nI m &&& (nI (2 ^ k - 1) ^^^ (-nI 1)) = nI 0 := by decide +kernel
theorem msk_c : ∀ k, k < 9 → ∀ i, i < 32 → k ≤ i → (nI (2 ^ k - 1) ^^^ (-nI 1)).toBitVec.getLsbD i = true := by decide +kernel
theorem msk_f {x : Int32} {k : Nat} (hk : k < 9) (h : x &&& (nI (2 ^ k - 1) ^^^ (-nI 1)) = nI 0) : ∃ m, m < 2 ^ k ∧ x = nI m := by
  have hb : ∀ i, k ≤ i → x.toBitVec.toNat.testBit i = false := by
    intro i hi
    by_cases h32 : i < 32
    · have e := congrArg (fun z => z.toBitVec.getLsbD i) h
      simp only [Int32.toBitVec_and, BitVec.getLsbD_and, msk_c k hk i h32 hi, Bool.and_true] at e
      have e0 : (nI 0).toBitVec.getLsbD i = false := by
        rw [show (nI 0).toBitVec = 0#32 from rfl]; simp
      rw [e0] at e
      exact e
    · exact Nat.testBit_lt_two_pow (Nat.lt_of_lt_of_le x.toBitVec.isLt (Nat.pow_le_pow_right (by omega) (by omega)))
  have hl : x.toBitVec.toNat < 2 ^ k := Nat.lt_pow_two_of_testBit _ hb
  refine ⟨x.toBitVec.toNat, hl, ?_⟩
  have h2 : 2 ^ k ≤ 2 ^ 8 := Nat.pow_le_pow_right (by omega) (by omega)
  apply Int32.toBitVec_inj.mp
  apply BitVec.eq_of_toNat_eq
  have e1 : (nI x.toBitVec.toNat).toInt = (x.toBitVec.toNat : Int) := nI_ti (by omega)
  have e2 := BitVec.toInt_eq_toNat_cond (nI x.toBitVec.toNat).toBitVec
  have e3 : (nI x.toBitVec.toNat).toBitVec.toInt = (nI x.toBitVec.toNat).toInt := rfl
  have e4 := (nI x.toBitVec.toNat).toBitVec.isLt
  rw [e3, e1] at e2
  split at e2 <;> omega
theorem msk_big {x : Int32} {k : Nat} (hk : k < 9) (h : nI (2 ^ k) ≤ x) : ¬ x &&& (nI (2 ^ k - 1) ^^^ (-nI 1)) = nI 0 := by
  intro z
  have h2 : 2 ^ k ≤ 2 ^ 8 := Nat.pow_le_pow_right (by omega) (by omega)
  obtain ⟨m, h1, rfl⟩ := msk_f hk z
  exact absurd ((nI_leI (by omega) (by omega)).mp h) (by omega)
theorem msk_neg {x : Int32} {k : Nat} (hk : k < 9) (h : x < nI 0) : ¬ x &&& (nI (2 ^ k - 1) ^^^ (-nI 1)) = nI 0 := by
  intro z
  have h2 : 2 ^ k ≤ 2 ^ 8 := Nat.pow_le_pow_right (by omega) (by omega)
  obtain ⟨m, h1, rfl⟩ := msk_f hk z
  exact nI_pos (by omega) h
def BadP (pe : Nat → Nat) (S nv : Nat) : Prop := ∃ u v, u < v ∧ v < nv ∧ tb S u = true ∧ tb S v = true ∧ gc (pe u) (pe v) = 1
theorem okf_bad {pe : Nat → Nat} {S v o u : Nat} {A : Nat → Nat} (hu : tb S u = true) (hg : gc (pe u) (pe v) = 1) : ∀ k x, x ≤ u → u < x + k → okf pe S v o A k x = false := by
  intro k
  induction k with
  | zero => intro x h1 h2; omega
  | succ k ih =>
    intro x h1 h2
    rw [okf_s]
    by_cases hx : x = u
    · subst hx
      rw [hu, hg, Nat.mod_one, Nat.mod_one]
      rfl
    · rw [ih (x + 1) (by omega) (by omega), Bool.and_false]
theorem tr_n {f : (Nat → Nat) → Option (Nat → Nat)} {ok : Nat → Bool} {A : Nat → Nat} {v : Nat} (h : ∀ o, ok o = true → f (uN A v o) = none) : ∀ j o, tr f ok A v j o = none := by
  intro j
  induction j with
  | zero => intro o; rfl
  | succ j ih =>
    intro o
    rw [tr]
    cases hk : ok o with
    | true => rw [if_pos rfl, h o hk]; exact ih _
    | false => rw [if_neg (by decide)]; exact ih _
theorem sr_bad {pe : Nat → Nat} {S nv u v : Nat} (huv : u < v) (hv : v < nv) (hu : tb S u = true) (hv2 : tb S v = true) (hg : gc (pe u) (pe v) = 1) : ∀ k, k ≤ nv → nv - k ≤ v → ∀ A, sr pe S nv k A = none := by
  intro k
  induction k with
  | zero => intro h1 h2; omega
  | succ k ih =>
    intro h1 h2 A
    rw [sr]
    by_cases hz : nv - (k + 1) = v
    · rw [hz, if_pos hv2]
      refine tr_n (fun o ho => ?_) _ _
      rw [okf_bad hu hg v 0 (by omega) (by omega)] at ho
      cases ho
    · have i1 := ih (by omega) (by omega)
      cases hb : tb S (nv - (k + 1)) with
      | true => rw [if_pos rfl]; exact tr_n (fun o _ => i1 _) _ _
      | false => rw [if_neg (by decide)]; exact i1 A
section Rock
variable {nv K Y I F Fo : Nat} {ro pe fe fs fg : Nat → Nat} {G : Nat → Nat → Int32} {GL : Nat → Nat → Int64} {M : Nat → Nat → Int32} {w : Mem} {g : Nat}
theorem cof_ok (h : RG nv K Y I F Fo ro pe fe fs fg (w.1 g) (w.2.1 g) M) {S : Nat} (hS : S < 256) : ∀ k u a n, u + k = nv → a ≤ 2520 * u → k < n → f0_comesOften_4 g (nI S) n (nI a) (nI u) w = some (if pts pe S k u a = 2520 then nI 1 else nI 0, w) := by
  have hnv := h.1.1
  have e4 := h.2.2.2.2.2.1.1
  intro k
  induction k with
  | zero =>
    intro u a n hu ha hn
    obtain ⟨n, rfl⟩ : ∃ m, n = m + 1 := ⟨n - 1, by omega⟩
    obtain rfl : u = nv := by omega
    rw [f0_comesOften_4]
    unfold f0_comesOften_44
    rw [pts]
    by_cases hz : a = 2520
    · simp (disch := omega) only [bE, bO, bV, bK, nI_lit, nI_add, lt_T, lt_F, le_T, le_F, eq_T, eq_F, ltm_T, ltm_F, lem_T, lem_F, eqm_F, meq_F, cl_nI, nle_T, nle_F, nlt_T, nlt_F, ↓reduceIte, or_true, true_or, or_false, false_or, and_true, true_and, and_false, false_and, not_true_eq_false, not_false_eq_true, or_self, and_self, true_implies, ite_self, e4, hz]
    · simp (disch := omega) only [bE, bO, bV, bK, nI_lit, nI_add, lt_T, lt_F, le_T, le_F, eq_T, eq_F, ltm_T, ltm_F, lem_T, lem_F, eqm_F, meq_F, cl_nI, nle_T, nle_F, nlt_T, nlt_F, ↓reduceIte, or_true, true_or, or_false, false_or, and_true, true_and, and_false, false_and, not_true_eq_false, not_false_eq_true, or_self, and_self, true_implies, ite_self, e4, hz]
  | succ k ih =>
    intro u a n hu ha hn
    obtain ⟨n, rfl⟩ : ∃ m, n = m + 1 := ⟨n - 1, by omega⟩
    have b := bt_sh S hS u (by omega)
    rw [f0_comesOften_4, pts]
    cases hb : tb S u with
    | false =>
      rw [hb, if_neg (by decide)] at b
      have i1 := ih (u + 1) a n (by omega) (by omega) (by omega)
      simp (disch := omega) only [bE, bO, bV, bK, nI_lit, nI_add, lt_T, lt_F, le_T, le_F, eq_T, eq_F, ltm_T, ltm_F, lem_T, lem_F, eqm_F, meq_F, cl_nI, nle_T, nle_F, nlt_T, nlt_F, ↓reduceIte, or_true, true_or, or_false, false_or, and_true, true_and, and_false, false_and, not_true_eq_false, not_false_eq_true, or_self, and_self, true_implies, ite_self, e4, b, Bool.false_eq_true]
      exact i1
    | true =>
      rw [hb, if_pos rfl] at b
      obtain ⟨⟨y1, y2, y3, y4⟩, -⟩ := h.2.2.2.2.2.2.2.2.1 u (by omega)
      have p1 := per_ok h (v := u) (by omega)
      have d1 : nI 2520 / nI (pe u) = nI (2520 / pe u) := rdiv (pe u) (by omega)
      have d2 := Nat.div_le_self 2520 (pe u)
      have i1 := ih (u + 1) (a + 2520 / pe u) n (by omega) (by omega) (by omega)
      simp (disch := omega) only [bE, bO, bV, bK, nI_lit, nI_add, lt_T, lt_F, le_T, le_F, eq_T, eq_F, ltm_T, ltm_F, lem_T, lem_F, eqm_F, meq_F, cl_nI, nle_T, nle_F, nlt_T, nlt_F, ↓reduceIte, or_true, true_or, or_false, false_or, and_true, true_and, and_false, false_and, not_true_eq_false, not_false_eq_true, or_self, and_self, true_implies, ite_self, e4, b, p1, d1]
      exact i1
theorem cp18 (h : RG nv K Y I F Fo ro pe fe fs fg (w.1 g) (w.2.1 g) M) {S v : Nat} (hS : S < 256) (hv : v < nv) (rec2 : Int32 → Mem → Option (Int32 × Mem)) : ∀ k u n, u + k = v → k < n → f0_canPassEachOther_18 g (nI S) rec2 n (nI v) (nI u) w = rec2 (nI (v + 1)) w ∨ (f0_canPassEachOther_18 g (nI S) rec2 n (nI v) (nI u) w = some (nI 0, w) ∧ BadP pe S nv) := by
  have hnv := h.1.1
  intro k
  induction k with
  | zero =>
    intro u n hu hn
    obtain ⟨n, rfl⟩ : ∃ m, n = m + 1 := ⟨n - 1, by omega⟩
    obtain rfl : u = v := by omega
    left
    rw [f0_canPassEachOther_18]
    simp (disch := omega) only [bE, bO, bV, bK, nI_lit, nI_add, lt_T, lt_F, le_T, le_F, eq_T, eq_F, ltm_T, ltm_F, lem_T, lem_F, eqm_F, meq_F, cl_nI, nle_T, nle_F, nlt_T, nlt_F, ↓reduceIte, or_true, true_or, or_false, false_or, and_true, true_and, and_false, false_and, not_true_eq_false, not_false_eq_true, or_self, and_self, true_implies, ite_self]
  | succ k ih =>
    intro u n hu hn
    obtain ⟨n, rfl⟩ : ∃ m, n = m + 1 := ⟨n - 1, by omega⟩
    have b := bt_sh S hS u (by omega)
    have b2 := bt_sh S hS v (by omega)
    have i1 := ih (u + 1) n (by omega) (by omega)
    have p1 := per_ok h (v := u) (by omega)
    have p2 := per_ok h hv
    obtain ⟨⟨y1, y2, y3, y4⟩, -⟩ := h.2.2.2.2.2.2.2.2.1 v hv
    obtain ⟨⟨z1, z2, z3, z4⟩, -⟩ := h.2.2.2.2.2.2.2.2.1 u (by omega)
    have c1 := cd_ok (a := pe u) (b := pe v) (by omega) (by omega) w
    have c2 := gc_c (pe u) (by omega) (pe v) (by omega)
    rw [f0_canPassEachOther_18]
    unfold f0_canPassEachOther_44
    cases hb : tb S u with
    | false =>
      rw [hb, if_neg (by decide)] at b
      simp (disch := omega) only [bE, bO, bV, bK, nI_lit, nI_add, lt_T, lt_F, le_T, le_F, eq_T, eq_F, ltm_T, ltm_F, lem_T, lem_F, eqm_F, meq_F, cl_nI, nle_T, nle_F, nlt_T, nlt_F, ↓reduceIte, or_true, true_or, or_false, false_or, and_true, true_and, and_false, false_and, not_true_eq_false, not_false_eq_true, or_self, and_self, true_implies, ite_self, b]
      exact i1
    | true =>
      rw [hb, if_pos rfl] at b
      cases hb2 : tb S v with
      | false =>
        rw [hb2, if_neg (by decide)] at b2
        simp (disch := omega) only [bE, bO, bV, bK, nI_lit, nI_add, lt_T, lt_F, le_T, le_F, eq_T, eq_F, ltm_T, ltm_F, lem_T, lem_F, eqm_F, meq_F, cl_nI, nle_T, nle_F, nlt_T, nlt_F, ↓reduceIte, or_true, true_or, or_false, false_or, and_true, true_and, and_false, false_and, not_true_eq_false, not_false_eq_true, or_self, and_self, true_implies, ite_self, b, b2]
        exact i1
      | true =>
        rw [hb2, if_pos rfl] at b2
        by_cases hg : gc (pe u) (pe v) = 1
        · right
          refine ⟨?_, u, v, by omega, hv, hb, hb2, hg⟩
          simp (disch := omega) only [bE, bO, bV, bK, nI_lit, nI_add, lt_T, lt_F, le_T, le_F, eq_T, eq_F, ltm_T, ltm_F, lem_T, lem_F, eqm_F, meq_F, cl_nI, nle_T, nle_F, nlt_T, nlt_F, ↓reduceIte, or_true, true_or, or_false, false_or, and_true, true_and, and_false, false_and, not_true_eq_false, not_false_eq_true, or_self, and_self, true_implies, ite_self, b, b2, p1, p2, c1, hg]
        · simp (disch := omega) only [bE, bO, bV, bK, nI_lit, nI_add, lt_T, lt_F, le_T, le_F, eq_T, eq_F, ltm_T, ltm_F, lem_T, lem_F, eqm_F, meq_F, cl_nI, nle_T, nle_F, nlt_T, nlt_F, ↓reduceIte, or_true, true_or, or_false, false_or, and_true, true_and, and_false, false_and, not_true_eq_false, not_false_eq_true, or_self, and_self, true_implies, ite_self, b, b2, p1, p2, c1]
          exact i1
theorem cp2 (h : RG nv K Y I F Fo ro pe fe fs fg (w.1 g) (w.2.1 g) M) {S : Nat} (hS : S < 256) : ∀ k v n, v + k = nv → k < n → f0_canPassEachOther_2 g (nI S) n (nI v) w = some (nI 1, w) ∨ (f0_canPassEachOther_2 g (nI S) n (nI v) w = some (nI 0, w) ∧ BadP pe S nv) := by
  have hnv := h.1.1
  have e4 := h.2.2.2.2.2.1.1
  intro k
  induction k with
  | zero =>
    intro v n hu hn
    obtain ⟨n, rfl⟩ : ∃ m, n = m + 1 := ⟨n - 1, by omega⟩
    obtain rfl : v = nv := by omega
    left
    rw [f0_canPassEachOther_2]
    simp (disch := omega) only [bE, bO, bV, bK, nI_lit, nI_add, lt_T, lt_F, le_T, le_F, eq_T, eq_F, ltm_T, ltm_F, lem_T, lem_F, eqm_F, meq_F, cl_nI, nle_T, nle_F, nlt_T, nlt_F, ↓reduceIte, or_true, true_or, or_false, false_or, and_true, true_and, and_false, false_and, not_true_eq_false, not_false_eq_true, or_self, and_self, true_implies, ite_self, e4]
  | succ k ih =>
    intro v n hu hn
    obtain ⟨n, rfl⟩ : ∃ m, n = m + 1 := ⟨n - 1, by omega⟩
    have i1 := ih (v + 1) n (by omega) (by omega)
    rw [f0_canPassEachOther_2]
    simp (disch := omega) only [bE, bO, bV, bK, nI_lit, nI_add, lt_T, lt_F, le_T, le_F, eq_T, eq_F, ltm_T, ltm_F, lem_T, lem_F, eqm_F, meq_F, cl_nI, nle_T, nle_F, nlt_T, nlt_F, ↓reduceIte, or_true, true_or, or_false, false_or, and_true, true_and, and_false, false_and, not_true_eq_false, not_false_eq_true, or_self, and_self, true_implies, ite_self, e4]
    rcases cp18 h hS (show v < nv by omega) (f0_canPassEachOther_2 g (nI S) n) v 0 100000 (by omega) (by omega) with z | ⟨z, z2⟩
    · rw [z]; exact i1
    · exact Or.inr ⟨z, z2⟩
end Rock
