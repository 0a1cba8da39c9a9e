/-! the year; the reference's side of who comes -/
def yb (x : Int32) (Y t : Nat) : Bool := decide (0 ≤ x) && decide (x < nI t) && decide (t ≤ x.toNatClampNeg + Y)
def yml (m : Nat) (y : Nat → Bool) : Nat → Nat
  | 0 => m
  | n + 1 => if y n then clr (yml m y n) n else yml m y n
theorem yml_T {m : Nat} {y : Nat → Bool} {n : Nat} (h : y n = true) : yml m y (n + 1) = clr (yml m y n) n := if_pos h
theorem yml_F {m : Nat} {y : Nat → Bool} {n : Nat} (h : y n = false) : yml m y (n + 1) = yml m y n := if_neg (by rw [h]; decide)
theorem clr_le (m v : Nat) : clr m v ≤ m := by
  unfold clr
  split
  · exact Nat.sub_le _ _
  · exact Nat.le_refl _
theorem yml_le (m : Nat) (y : Nat → Bool) : ∀ n, yml m y n ≤ m
  | 0 => Nat.le_refl _
  | n + 1 => by
    have ih := yml_le m y n
    unfold yml
    split
    · exact Nat.le_trans (clr_le _ _) ih
    · exact ih
theorem tb_big : ∀ m, m < 256 → ∀ v, v < 9 → m < 2 ^ v → tb m v = false := by decide +kernel
theorem ins_lt : ∀ m, m < 256 → ∀ v, v < 8 → m < 2 ^ v → ins m v < 2 ^ (v + 1) := by decide +kernel
theorem msk_lt2 (b : Nat → Bool) : ∀ n, n ≤ 8 → msk b n < 2 ^ n
  | 0, _ => Nat.zero_lt_succ 0
  | n + 1, h => by
    have ih := msk_lt2 b n (by omega)
    have hp := Nat.pow_lt_pow_right (a := 2) (by omega) (show n < n + 1 by omega)
    cases hb : b n with
    | true => rw [msk_T hb]; exact ins_lt _ (msk_lt b n (by omega)) n (by omega) ih
    | false => rw [msk_F hb]; omega
theorem yml_ext {m nv : Nat} {y : Nat → Bool} (hm : m < 2 ^ nv) (h8 : m < 256) : ∀ k, nv + k ≤ 8 → yml m y (nv + k) = yml m y nv
  | 0, _ => rfl
  | k + 1, h => by
    have ih := yml_ext (y := y) hm h8 k (by omega)
    have hp : 2 ^ nv ≤ 2 ^ (nv + k) := Nat.pow_le_pow_right (by omega) (by omega)
    have hl := yml_le m y (nv + k)
    rw [show nv + (k + 1) = (nv + k) + 1 by omega]
    cases hy : y (nv + k) with
    | true =>
      rw [yml_T hy]
      have h1 : tb (yml m y (nv + k)) (nv + k) = false := tb_big _ (by omega) _ (by omega) (by omega)
      unfold clr
      rw [h1, if_neg (by decide)]
      exact ih
    | false => rw [yml_F hy]; exact ih
theorem yb_m1 {Y t : Nat} : yb (-1) Y t = false := by
  have : decide ((0 : Int32) ≤ -1) = false := by decide
  simp [yb, this]
theorem yb_nI {l Y t : Nat} (hl : l < 2147483648) (ht : t < 2147483648) : yb (nI l) Y t = (decide (l < t) && decide (t ≤ l + Y)) := by
  have e1 : decide ((0 : Int32) ≤ nI l) = true := decide_eq_true (nI_pos' hl)
  have e2 : decide (nI l < nI t) = decide (l < t) := by simp only [nI_ltI hl ht]
  simp [yb, e1, e2, nI_clamp hl]
section Rock
variable {nv K Y I F Fo : Nat} {ro pe fe fs fg : Nat → Nat} {g : Nat} {w : Mem}
theorem com_loop {d t : Nat} {m : Nat} {y : Nat → Bool} (hy0 : ∀ v, v < 8 → y v = yb (w.1 d 1 v) Y t) (hm : m < 256) (hY : w.1 g 2 0 = nI Y) (hY3 : Y ≤ 30) (hl : ∀ v, v < 8 → w.1 d 1 v = -1 ∨ ∃ l, l < 1000000000 ∧ w.1 d 1 v = nI l) (ht : t < 1000000000) :
    ∀ (k v n : Nat), v + k = 8 → k < n → f1_comers_10 d g (nI t) n (nI (yml m y v)) (nI v) w = some (nI (yml m y 8), w) := by
  intro k
  induction k with
  | zero =>
    intro v n hv hn
    obtain ⟨n, rfl⟩ : ∃ m, n = m + 1 := ⟨n - 1, by omega⟩
    rw [f1_comers_10]
    obtain rfl : v = 8 := by omega
    simp (disch := omega) only [bE, bO, bV, bK, nI_lit, nI_add, lt_T, lt_F, le_T, le_F, eq_T, eq_F, ltm_T, ltm_F, lem_T, lem_F, eqm_F, meq_F, cl_nI, nle_T, nle_F, nlt_T, nlt_F, ↓reduceIte, or_true, true_or, or_false, false_or, and_true, true_and, and_false, false_and, not_true_eq_false, not_false_eq_true, or_self, and_self, true_implies, ite_self, if_true]
  | succ k ih =>
    intro v n hv hn
    obtain ⟨n, rfl⟩ : ∃ m, n = m + 1 := ⟨n - 1, by omega⟩
    have i1 := ih (v + 1) n (by omega) (by omega)
    rw [f1_comers_10]
    unfold f1_comers_63
    have hq := yml_le m y v
    have o1 := bt_clr (yml m y v) (by omega) v (by omega)
    rcases hl v (by omega) with h1 | ⟨l, h1, h2⟩
    · rw [yml_F (show y v = false by rw [hy0 v (by omega), h1]; exact yb_m1)] at i1
      simp (disch := omega) only [bE, bO, bV, bK, nI_lit, nI_add, lt_T, lt_F, le_T, le_F, eq_T, eq_F, ltm_T, ltm_F, lem_T, lem_F, eqm_F, meq_F, cl_nI, nle_T, nle_F, nlt_T, nlt_F, ↓reduceIte, or_true, true_or, or_false, false_or, and_true, true_and, and_false, false_and, not_true_eq_false, not_false_eq_true, or_self, and_self, true_implies, ite_self, h1]
      exact i1
    · have hy : y v = (decide (l < t) && decide (t ≤ l + Y)) := by rw [hy0 v (by omega), h2]; exact yb_nI (by omega) (by omega)
      by_cases c1 : l < t
      · by_cases c2 : t ≤ l + Y
        · rw [yml_T (show y v = true by rw [hy]; simp [c1, c2])] at i1
          simp (disch := omega) only [bE, bO, bV, bK, nI_lit, nI_add, lt_T, lt_F, le_T, le_F, eq_T, eq_F, ltm_T, ltm_F, lem_T, lem_F, eqm_F, meq_F, cl_nI, nle_T, nle_F, nlt_T, nlt_F, ↓reduceIte, or_true, true_or, or_false, false_or, and_true, true_and, and_false, false_and, not_true_eq_false, not_false_eq_true, or_self, and_self, true_implies, ite_self, h2, hY, pk_sub, o1]
          exact i1
        · rw [yml_F (show y v = false by rw [hy]; simp [c2])] at i1
          simp (disch := omega) only [bE, bO, bV, bK, nI_lit, nI_add, lt_T, lt_F, le_T, le_F, eq_T, eq_F, ltm_T, ltm_F, lem_T, lem_F, eqm_F, meq_F, cl_nI, nle_T, nle_F, nlt_T, nlt_F, ↓reduceIte, or_true, true_or, or_false, false_or, and_true, true_and, and_false, false_and, not_true_eq_false, not_false_eq_true, or_self, and_self, true_implies, ite_self, h2, hY, pk_sub, o1]
          exact i1
      · rw [yml_F (show y v = false by rw [hy]; simp [c1])] at i1
        simp (disch := omega) only [bE, bO, bV, bK, nI_lit, nI_add, lt_T, lt_F, le_T, le_F, eq_T, eq_F, ltm_T, ltm_F, lem_T, lem_F, eqm_F, meq_F, cl_nI, nle_T, nle_F, nlt_T, nlt_F, ↓reduceIte, or_true, true_or, or_false, false_or, and_true, true_and, and_false, false_and, not_true_eq_false, not_false_eq_true, or_self, and_self, true_implies, ite_self, h2, hY]
        exact i1
/-- the reference: feasts, fog -/
theorem any_T {n : Nat} {f : Nat → Nat} {t : Nat} (k : Nat) (hk : anyB k f t = true) (h : k ≤ n) : anyB n f t = true := by
  induction n with
  | zero => rwa [show k = 0 by omega] at hk
  | succ n ih =>
    rcases Nat.lt_or_ge k (n + 1) with z | z
    · simp [anyB, ih (by omega)]
    · rwa [show k = n + 1 by omega] at hk
theorem fst_loop {n t : Nat} {f : Nat → Nat} (e1 : w.1 32 7 0 = nI n) (hn : n ≤ 8) (hf : ∀ k, k < n → f k < 1000 ∧ w.1 32 8 k = nI (f k)) (ht : t < 2147483648) :
    ∀ (k v m : Nat), v + k = n → k < m → f8_isFeast_4 (nI t) m (if anyB v f t then nI 1 else nI 0) (nI v) w = some (if anyB n f t then nI 1 else nI 0, w) := by
  intro k
  induction k with
  | zero =>
    intro v m hv hm
    obtain ⟨m, rfl⟩ : ∃ q, m = q + 1 := ⟨m - 1, by omega⟩
    rw [f8_isFeast_4]
    obtain rfl : v = n := by omega
    simp (disch := omega) only [bE, bO, bV, bK, nI_lit, nI_add, lt_T, lt_F, le_T, le_F, eq_T, eq_F, ltm_T, ltm_F, lem_T, lem_F, eqm_F, meq_F, cl_nI, nle_T, nle_F, nlt_T, nlt_F, ↓reduceIte, or_true, true_or, or_false, false_or, and_true, true_and, and_false, false_and, not_true_eq_false, not_false_eq_true, or_self, and_self, true_implies, ite_self, e1]
    cases anyB v f t <;> rfl
  | succ k ih =>
    intro v m hv hm
    obtain ⟨m, rfl⟩ : ∃ q, m = q + 1 := ⟨m - 1, by omega⟩
    have i1 := ih (v + 1) m (by omega) (by omega)
    rw [f8_isFeast_4]
    have z := hf v (by omega)
    cases h5 : anyB v f t with
    | true =>
      simp only [anyB, h5, Bool.true_or, if_true] at i1
      simp (disch := omega) only [bE, bO, bV, bK, nI_lit, nI_add, lt_T, lt_F, le_T, le_F, eq_T, eq_F, ltm_T, ltm_F, lem_T, lem_F, eqm_F, meq_F, cl_nI, nle_T, nle_F, nlt_T, nlt_F, ↓reduceIte, or_true, true_or, or_false, false_or, and_true, true_and, and_false, false_and, not_true_eq_false, not_false_eq_true, or_self, and_self, true_implies, ite_self, e1, z.2]
      exact i1
    | false =>
      by_cases c : f v = t
      · simp only [anyB, h5, c, decide_true, Bool.or_true, if_true] at i1
        simp (disch := omega) only [bE, bO, bV, bK, nI_lit, nI_add, lt_T, lt_F, le_T, le_F, eq_T, eq_F, ltm_T, ltm_F, lem_T, lem_F, eqm_F, meq_F, cl_nI, nle_T, nle_F, nlt_T, nlt_F, ↓reduceIte, or_true, true_or, or_false, false_or, and_true, true_and, and_false, false_and, not_true_eq_false, not_false_eq_true, or_self, and_self, true_implies, ite_self, e1, z.2, Bool.false_eq_true]
        exact i1
      · simp only [anyB, h5, c, decide_false, Bool.or_false, Bool.false_eq_true, if_false] at i1
        simp (disch := omega) only [bE, bO, bV, bK, nI_lit, nI_add, lt_T, lt_F, le_T, le_F, eq_T, eq_F, ltm_T, ltm_F, lem_T, lem_F, eqm_F, meq_F, cl_nI, nle_T, nle_F, nlt_T, nlt_F, ↓reduceIte, or_true, true_or, or_false, false_or, and_true, true_and, and_false, false_and, not_true_eq_false, not_false_eq_true, or_self, and_self, true_implies, ite_self, e1, z.2, Bool.false_eq_true]
        exact i1
theorem fog_loop {n t : Nat} {f : Nat → Nat} (e1 : w.1 32 9 0 = nI n) (hn : n ≤ 8) (hf : ∀ k, k < n → f k < 1000 ∧ w.1 32 10 k = nI (f k)) (ht : t < 2147483648) :
    ∀ (k v m : Nat), v + k = n → k < m → f8_isFog_4 (nI t) m (if anyB v f t then nI 1 else nI 0) (nI v) w = some (if anyB n f t then nI 1 else nI 0, w) := by
  intro k
  induction k with
  | zero =>
    intro v m hv hm
    obtain ⟨m, rfl⟩ : ∃ q, m = q + 1 := ⟨m - 1, by omega⟩
    rw [f8_isFog_4]
    obtain rfl : v = n := by omega
    simp (disch := omega) only [bE, bO, bV, bK, nI_lit, nI_add, lt_T, lt_F, le_T, le_F, eq_T, eq_F, ltm_T, ltm_F, lem_T, lem_F, eqm_F, meq_F, cl_nI, nle_T, nle_F, nlt_T, nlt_F, ↓reduceIte, or_true, true_or, or_false, false_or, and_true, true_and, and_false, false_and, not_true_eq_false, not_false_eq_true, or_self, and_self, true_implies, ite_self, e1]
    cases anyB v f t <;> rfl
  | succ k ih =>
    intro v m hv hm
    obtain ⟨m, rfl⟩ : ∃ q, m = q + 1 := ⟨m - 1, by omega⟩
    have i1 := ih (v + 1) m (by omega) (by omega)
    rw [f8_isFog_4]
    have z := hf v (by omega)
    cases h5 : anyB v f t with
    | true =>
      simp only [anyB, h5, Bool.true_or, if_true] at i1
      simp (disch := omega) only [bE, bO, bV, bK, nI_lit, nI_add, lt_T, lt_F, le_T, le_F, eq_T, eq_F, ltm_T, ltm_F, lem_T, lem_F, eqm_F, meq_F, cl_nI, nle_T, nle_F, nlt_T, nlt_F, ↓reduceIte, or_true, true_or, or_false, false_or, and_true, true_and, and_false, false_and, not_true_eq_false, not_false_eq_true, or_self, and_self, true_implies, ite_self, e1, z.2]
      exact i1
    | false =>
      by_cases c : f v = t
      · simp only [anyB, h5, c, decide_true, Bool.or_true, if_true] at i1
        simp (disch := omega) only [bE, bO, bV, bK, nI_lit, nI_add, lt_T, lt_F, le_T, le_F, eq_T, eq_F, ltm_T, ltm_F, lem_T, lem_F, eqm_F, meq_F, cl_nI, nle_T, nle_F, nlt_T, nlt_F, ↓reduceIte, or_true, true_or, or_false, false_or, and_true, true_and, and_false, false_and, not_true_eq_false, not_false_eq_true, or_self, and_self, true_implies, ite_self, e1, z.2, Bool.false_eq_true]
        exact i1
      · simp only [anyB, h5, c, decide_false, Bool.or_false, Bool.false_eq_true, if_false] at i1
        simp (disch := omega) only [bE, bO, bV, bK, nI_lit, nI_add, lt_T, lt_F, le_T, le_F, eq_T, eq_F, ltm_T, ltm_F, lem_T, lem_F, eqm_F, meq_F, cl_nI, nle_T, nle_F, nlt_T, nlt_F, ↓reduceIte, or_true, true_or, or_false, false_or, and_true, true_and, and_false, false_and, not_true_eq_false, not_false_eq_true, or_self, and_self, true_implies, ite_self, e1, z.2, Bool.false_eq_true]
        exact i1
theorem hasm_ok {m v : Nat} (hm : m < 256) (hv : v < 9) : f8_has (nI m) (nI v) w = some (if tb m v then nI 1 else nI 0, w) := by
  unfold f8_has
  simp (disch := omega) only [bE, bO, bV, bK, nI_lit, nI_add, lt_T, lt_F, le_T, le_F, eq_T, eq_F, ltm_T, ltm_F, lem_T, lem_F, eqm_F, meq_F, cl_nI, nle_T, nle_F, nlt_T, nlt_F, ↓reduceIte, or_true, true_or, or_false, false_or, and_true, true_and, and_false, false_and, not_true_eq_false, not_false_eq_true, or_self, and_self, true_implies, ite_self, bt_sh m hm v hv]
  cases tb m v <;> simp (disch := omega) only [bE, bO, bV, bK, nI_lit, nI_add, lt_T, lt_F, le_T, le_F, eq_T, eq_F, ltm_T, ltm_F, lem_T, lem_F, eqm_F, meq_F, cl_nI, nle_T, nle_F, nlt_T, nlt_F, ↓reduceIte, or_true, true_or, or_false, false_or, and_true, true_and, and_false, false_and, not_true_eq_false, not_false_eq_true, or_self, and_self, true_implies, ite_self, Bool.false_eq_true]
theorem goes_ok (h : RG nv K Y I F Fo ro pe fe fs fg (w.1 g) (w.2.1 g) (w.1 32)) {v t : Nat} (hv : v < nv) (o : Int32) (ht : t < 2147483648) : f8_goesBy (nI v) (nI t) o w = some (if gb (ro v) (pe v) o (anyB F fs t) (anyB Fo fg t) t then nI 1 else nI 0, w) := by
  obtain ⟨⟨hnv, -, -, -, hF, hFo, -⟩, -, -, -, -, a4, a5, a6, a7, a8, a9, a10, a11⟩ := h
  obtain ⟨⟨r1, r2, r3, -⟩, ⟨-, r4⟩, ⟨-, r5⟩, -⟩ := a7 v hv
  have m1 : f8_isFeast (nI t) w = some (if anyB F fs t then nI 1 else nI 0, w) := fst_loop a5.2 hF a8 ht F 0 100000 (by omega) (by omega)
  have m2 : f8_isFog (nI t) w = some (if anyB Fo fg t then nI 1 else nI 0, w) := fog_loop a6.2 hFo a9 ht Fo 0 100000 (by omega) (by omega)
  have e3 := jr ht (show 0 < pe v by omega) (by omega)
  unfold f8_goesBy f8_goesBy_25
  by_cases c1 : ro v ≤ t
  · by_cases c2 : nI (t % pe v) = o
    · by_cases c4 : ro v = 0
      · simp (disch := omega) only [bE, bO, bV, bK, nI_lit, nI_add, lt_T, lt_F, le_T, le_F, eq_T, eq_F, ltm_T, ltm_F, lem_T, lem_F, eqm_F, meq_F, cl_nI, nle_T, nle_F, nlt_T, nlt_F, ↓reduceIte, or_true, true_or, or_false, false_or, and_true, true_and, and_false, false_and, not_true_eq_false, not_false_eq_true, or_self, and_self, true_implies, ite_self, ob_sI, ky_sI, kx_sI, ob_sA, ky_sA, kx_sA, upd_s, upd_n, rd_sI3, rd_sA3, rd_sI2, rd_sA2, rd_sL1, rd_sR1, r4, r5, e3, c2, m1, m2]
        simp [gb, c1, c2, c4]
      · simp (disch := omega) only [bE, bO, bV, bK, nI_lit, nI_add, lt_T, lt_F, le_T, le_F, eq_T, eq_F, ltm_T, ltm_F, lem_T, lem_F, eqm_F, meq_F, cl_nI, nle_T, nle_F, nlt_T, nlt_F, ↓reduceIte, or_true, true_or, or_false, false_or, and_true, true_and, and_false, false_and, not_true_eq_false, not_false_eq_true, or_self, and_self, true_implies, ite_self, ob_sI, ky_sI, kx_sI, ob_sA, ky_sA, kx_sA, upd_s, upd_n, rd_sI3, rd_sA3, rd_sI2, rd_sA2, rd_sL1, rd_sR1, r4, r5, e3, c2, m1, m2]
        cases h5 : anyB Fo fg t <;> (try simp (disch := omega) only [bE, bO, bV, bK, nI_lit, nI_add, lt_T, lt_F, le_T, le_F, eq_T, eq_F, ltm_T, ltm_F, lem_T, lem_F, eqm_F, meq_F, cl_nI, nle_T, nle_F, nlt_T, nlt_F, ↓reduceIte, or_true, true_or, or_false, false_or, and_true, true_and, and_false, false_and, not_true_eq_false, not_false_eq_true, or_self, and_self, true_implies, ite_self, Bool.false_eq_true]) <;> simp [gb, c1, c2, c4]
    · by_cases c4 : ro v = 0
      · simp (disch := omega) only [bE, bO, bV, bK, nI_lit, nI_add, lt_T, lt_F, le_T, le_F, eq_T, eq_F, ltm_T, ltm_F, lem_T, lem_F, eqm_F, meq_F, cl_nI, nle_T, nle_F, nlt_T, nlt_F, ↓reduceIte, or_true, true_or, or_false, false_or, and_true, true_and, and_false, false_and, not_true_eq_false, not_false_eq_true, or_self, and_self, true_implies, ite_self, ob_sI, ky_sI, kx_sI, ob_sA, ky_sA, kx_sA, upd_s, upd_n, rd_sI3, rd_sA3, rd_sI2, rd_sA2, rd_sL1, rd_sR1, r4, r5, e3, c2, m1, m2]
        cases h5 : anyB F fs t <;> (try simp (disch := omega) only [bE, bO, bV, bK, nI_lit, nI_add, lt_T, lt_F, le_T, le_F, eq_T, eq_F, ltm_T, ltm_F, lem_T, lem_F, eqm_F, meq_F, cl_nI, nle_T, nle_F, nlt_T, nlt_F, ↓reduceIte, or_true, true_or, or_false, false_or, and_true, true_and, and_false, false_and, not_true_eq_false, not_false_eq_true, or_self, and_self, true_implies, ite_self, Bool.false_eq_true]) <;> simp [gb, c1, c2, c4]
      · simp (disch := omega) only [bE, bO, bV, bK, nI_lit, nI_add, lt_T, lt_F, le_T, le_F, eq_T, eq_F, ltm_T, ltm_F, lem_T, lem_F, eqm_F, meq_F, cl_nI, nle_T, nle_F, nlt_T, nlt_F, ↓reduceIte, or_true, true_or, or_false, false_or, and_true, true_and, and_false, false_and, not_true_eq_false, not_false_eq_true, or_self, and_self, true_implies, ite_self, ob_sI, ky_sI, kx_sI, ob_sA, ky_sA, kx_sA, upd_s, upd_n, rd_sI3, rd_sA3, rd_sI2, rd_sA2, rd_sL1, rd_sR1, r4, r5, e3, c2, m1, m2]
        cases h5 : anyB Fo fg t <;> cases h6 : anyB F fs t <;> (try simp (disch := omega) only [bE, bO, bV, bK, nI_lit, nI_add, lt_T, lt_F, le_T, le_F, eq_T, eq_F, ltm_T, ltm_F, lem_T, lem_F, eqm_F, meq_F, cl_nI, nle_T, nle_F, nlt_T, nlt_F, ↓reduceIte, or_true, true_or, or_false, false_or, and_true, true_and, and_false, false_and, not_true_eq_false, not_false_eq_true, or_self, and_self, true_implies, ite_self, Bool.false_eq_true]) <;> simp [gb, c1, c2, c4]
  · by_cases c2 : nI (t % pe v) = o
    · simp (disch := omega) only [bE, bO, bV, bK, nI_lit, nI_add, lt_T, lt_F, le_T, le_F, eq_T, eq_F, ltm_T, ltm_F, lem_T, lem_F, eqm_F, meq_F, cl_nI, nle_T, nle_F, nlt_T, nlt_F, ↓reduceIte, or_true, true_or, or_false, false_or, and_true, true_and, and_false, false_and, not_true_eq_false, not_false_eq_true, or_self, and_self, true_implies, ite_self, ob_sI, ky_sI, kx_sI, ob_sA, ky_sA, kx_sA, upd_s, upd_n, rd_sI3, rd_sA3, rd_sI2, rd_sA2, rd_sL1, rd_sR1, r4, r5, e3, c2, m1, m2]
      simp [gb, c1]
    · simp (disch := omega) only [bE, bO, bV, bK, nI_lit, nI_add, lt_T, lt_F, le_T, le_F, eq_T, eq_F, ltm_T, ltm_F, lem_T, lem_F, eqm_F, meq_F, cl_nI, nle_T, nle_F, nlt_T, nlt_F, ↓reduceIte, or_true, true_or, or_false, false_or, and_true, true_and, and_false, false_and, not_true_eq_false, not_false_eq_true, or_self, and_self, true_implies, ite_self, ob_sI, ky_sI, kx_sI, ob_sA, ky_sA, kx_sA, upd_s, upd_n, rd_sI3, rd_sA3, rd_sI2, rd_sA2, rd_sL1, rd_sR1, r4, r5, e3, c2, m1, m2]
      cases h6 : anyB F fs t <;> (try simp (disch := omega) only [bE, bO, bV, bK, nI_lit, nI_add, lt_T, lt_F, le_T, le_F, eq_T, eq_F, ltm_T, ltm_F, lem_T, lem_F, eqm_F, meq_F, cl_nI, nle_T, nle_F, nlt_T, nlt_F, ↓reduceIte, or_true, true_or, or_false, false_or, and_true, true_and, and_false, false_and, not_true_eq_false, not_false_eq_true, or_self, and_self, true_implies, ite_self, Bool.false_eq_true]) <;> simp [gb, c1]
theorem or_0 (m : Nat) : nI m ||| nI 0 = nI m := by
  apply Int32.toBitVec_inj.mp
  rw [Int32.toBitVec_or]
  show _ ||| 0#32 = _
  simp
theorem goers_loop (h : RG nv K Y I F Fo ro pe fe fs fg (w.1 g) (w.2.1 g) (w.1 32)) {st t : Nat} (e : w.1 32 11 8 = nI st) (hs : st < 256) (ht : t < 2147483648) {b : Nat → Bool} (hb : ∀ v, v < nv → b v = cb ro pe (fun v => w.1 32 11 (10 + v)) st (anyB F fs t) (anyB Fo fg t) t v) :
    ∀ (k v n : Nat), v + k = nv → k < n → f8_goers_4 (nI t) n (nI (msk b v)) (nI v) w = some (nI (msk b nv), w) := by
  have a4 := h.2.2.2.2.2.1.2
  have hnv := h.1.1
  intro k
  induction k with
  | zero =>
    intro v n hv hn
    obtain ⟨n, rfl⟩ : ∃ m, n = m + 1 := ⟨n - 1, by omega⟩
    rw [f8_goers_4]
    obtain rfl : v = nv := by omega
    simp (disch := omega) only [bE, bO, bV, bK, nI_lit, nI_add, lt_T, lt_F, le_T, le_F, eq_T, eq_F, ltm_T, ltm_F, lem_T, lem_F, eqm_F, meq_F, cl_nI, nle_T, nle_F, nlt_T, nlt_F, ↓reduceIte, or_true, true_or, or_false, false_or, and_true, true_and, and_false, false_and, not_true_eq_false, not_false_eq_true, or_self, and_self, true_implies, ite_self, a4]
  | succ k ih =>
    intro v n hv hn
    obtain ⟨n, rfl⟩ : ∃ m, n = m + 1 := ⟨n - 1, by omega⟩
    have i1 := ih (v + 1) n (by omega) (by omega)
    rw [f8_goers_4]
    have s1 := hasm_ok (w := w) (v := v) hs (by omega)
    have b1 := goes_ok h (v := v) (by omega) (w.1 32 11 (10 + v)) ht
    have hm := msk_lt b v (by omega)
    have o1 := bt_or _ hm v (by omega)
    have hbv := hb v (by omega)
    unfold cb at hbv
    cases h5 : tb st v with
    | true =>
      rw [msk_F (show b v = false by rw [hbv]; simp [h5])] at i1
      simp only [h5, if_true] at s1
      simp (disch := omega) only [bE, bO, bV, bK, nI_lit, nI_add, lt_T, lt_F, le_T, le_F, eq_T, eq_F, ltm_T, ltm_F, lem_T, lem_F, eqm_F, meq_F, cl_nI, nle_T, nle_F, nlt_T, nlt_F, ↓reduceIte, or_true, true_or, or_false, false_or, and_true, true_and, and_false, false_and, not_true_eq_false, not_false_eq_true, or_self, and_self, true_implies, ite_self, a4, s1, e, or_0]
      exact i1
    | false =>
      simp only [h5, Bool.false_eq_true, if_false] at s1
      cases h6 : gb (ro v) (pe v) (w.1 32 11 (10 + v)) (anyB F fs t) (anyB Fo fg t) t with
      | true =>
        rw [msk_T (show b v = true by rw [hbv]; simp [h5, h6])] at i1
        simp only [h6, if_true] at b1
        simp (disch := omega) only [bE, bO, bV, bK, nI_lit, nI_add, lt_T, lt_F, le_T, le_F, eq_T, eq_F, ltm_T, ltm_F, lem_T, lem_F, eqm_F, meq_F, cl_nI, nle_T, nle_F, nlt_T, nlt_F, ↓reduceIte, or_true, true_or, or_false, false_or, and_true, true_and, and_false, false_and, not_true_eq_false, not_false_eq_true, or_self, and_self, true_implies, ite_self, a4, s1, b1, o1, e]
        exact i1
      | false =>
        rw [msk_F (show b v = false by rw [hbv]; simp [h5, h6])] at i1
        simp only [h6, Bool.false_eq_true, if_false] at b1
        simp (disch := omega) only [bE, bO, bV, bK, nI_lit, nI_add, lt_T, lt_F, le_T, le_F, eq_T, eq_F, ltm_T, ltm_F, lem_T, lem_F, eqm_F, meq_F, cl_nI, nle_T, nle_F, nlt_T, nlt_F, ↓reduceIte, or_true, true_or, or_false, false_or, and_true, true_and, and_false, false_and, not_true_eq_false, not_false_eq_true, or_self, and_self, true_implies, ite_self, a4, s1, b1, e, or_0]
        exact i1
theorem msk_congr {b b' : Nat → Bool} : ∀ n, (∀ v, v < n → b v = b' v) → msk b n = msk b' n
  | 0, _ => rfl
  | n + 1, h => by rw [msk, msk, h n (by omega), msk_congr n (fun v hv => h v (by omega))]
theorem yml_congr {m : Nat} {b b' : Nat → Bool} : ∀ n, (∀ v, v < n → b v = b' v) → yml m b n = yml m b' n
  | 0, _ => rfl
  | n + 1, h => by rw [yml, yml, h n (by omega), yml_congr n (fun v hv => h v (by omega))]
theorem mcom_loop {t m : Nat} {y : Nat → Bool} (hnv : nv ≤ 8) (a4 : w.1 32 3 0 = nI nv) (hy0 : ∀ v, v < nv → y v = yb (w.1 32 11 (18 + v)) Y t) (hm : m < 256) (hY : w.1 32 1 0 = nI Y) (hY3 : Y ≤ 30) (hl : ∀ v, v < 8 → w.1 32 11 (18 + v) = -1 ∨ ∃ l, l < 1000000000 ∧ w.1 32 11 (18 + v) = nI l) (ht : t < 1000000000) :
    ∀ (k v n : Nat), v + k = nv → k < n → f8_comers_8 (nI t) n (nI (yml m y v)) (nI v) w = some (nI (yml m y nv), w) := by
  intro k
  induction k with
  | zero =>
    intro v n hv hn
    obtain ⟨n, rfl⟩ : ∃ m, n = m + 1 := ⟨n - 1, by omega⟩
    rw [f8_comers_8]
    obtain rfl : v = nv := by omega
    simp (disch := omega) only [bE, bO, bV, bK, nI_lit, nI_add, lt_T, lt_F, le_T, le_F, eq_T, eq_F, ltm_T, ltm_F, lem_T, lem_F, eqm_F, meq_F, cl_nI, nle_T, nle_F, nlt_T, nlt_F, ↓reduceIte, or_true, true_or, or_false, false_or, and_true, true_and, and_false, false_and, not_true_eq_false, not_false_eq_true, or_self, and_self, true_implies, ite_self, a4]
  | succ k ih =>
    intro v n hv hn
    obtain ⟨n, rfl⟩ : ∃ m, n = m + 1 := ⟨n - 1, by omega⟩
    have i1 := ih (v + 1) n (by omega) (by omega)
    rw [f8_comers_8]
    have hq := yml_le m y v
    have o1 := bt_clr (yml m y v) (by omega) v (by omega)
    rcases hl v (by omega) with h1 | ⟨l, h1, h2⟩
    · rw [yml_F (show y v = false by rw [hy0 v (by omega), h1]; exact yb_m1)] at i1
      simp (disch := omega) only [bE, bO, bV, bK, nI_lit, nI_add, lt_T, lt_F, le_T, le_F, eq_T, eq_F, ltm_T, ltm_F, lem_T, lem_F, eqm_F, meq_F, cl_nI, nle_T, nle_F, nlt_T, nlt_F, ↓reduceIte, or_true, true_or, or_false, false_or, and_true, true_and, and_false, false_and, not_true_eq_false, not_false_eq_true, or_self, and_self, true_implies, ite_self, a4, h1]
      exact i1
    · have hy : y v = (decide (l < t) && decide (t ≤ l + Y)) := by rw [hy0 v (by omega), h2]; exact yb_nI (by omega) (by omega)
      by_cases c1 : l < t
      · by_cases c2 : t ≤ l + Y
        · rw [yml_T (show y v = true by rw [hy]; simp [c1, c2])] at i1
          simp (disch := omega) only [bE, bO, bV, bK, nI_lit, nI_add, lt_T, lt_F, le_T, le_F, eq_T, eq_F, ltm_T, ltm_F, lem_T, lem_F, eqm_F, meq_F, cl_nI, nle_T, nle_F, nlt_T, nlt_F, ↓reduceIte, or_true, true_or, or_false, false_or, and_true, true_and, and_false, false_and, not_true_eq_false, not_false_eq_true, or_self, and_self, true_implies, ite_self, a4, h2, hY, o1]
          exact i1
        · rw [yml_F (show y v = false by rw [hy]; simp [c2])] at i1
          simp (disch := omega) only [bE, bO, bV, bK, nI_lit, nI_add, lt_T, lt_F, le_T, le_F, eq_T, eq_F, ltm_T, ltm_F, lem_T, lem_F, eqm_F, meq_F, cl_nI, nle_T, nle_F, nlt_T, nlt_F, ↓reduceIte, or_true, true_or, or_false, false_or, and_true, true_and, and_false, false_and, not_true_eq_false, not_false_eq_true, or_self, and_self, true_implies, ite_self, a4, h2, hY, o1]
          exact i1
      · rw [yml_F (show y v = false by rw [hy]; simp [c1])] at i1
        simp (disch := omega) only [bE, bO, bV, bK, nI_lit, nI_add, lt_T, lt_F, le_T, le_F, eq_T, eq_F, ltm_T, ltm_F, lem_T, lem_F, eqm_F, meq_F, cl_nI, nle_T, nle_F, nlt_T, nlt_F, ↓reduceIte, or_true, true_or, or_false, false_or, and_true, true_and, and_false, false_and, not_true_eq_false, not_false_eq_true, or_self, and_self, true_implies, ite_self, a4, h2, hY]
        exact i1
end Rock
