/-! the inn -/
def rD (D : Nat → Nat → Int32) (f : Nat → Int32) (c : Nat) : Nat → Nat → Int32 := uK (uK D 2 f) 5 (upd (D 5) 0 (nI c))
def rN (N : Nat → Int32) (f : Nat → Int32) (c : Nat) : Nat → Int32 := fun j => if j = 9 then nI c else if 26 ≤ j ∧ j < 43 then f (j - 26) else N j
def raf (f : Nat → Int32) (c S : Nat) : Nat → (Nat → Int32) × Nat
  | 0 => (f, c)
  | n + 1 => if tb S n then (upd (raf f c S n).1 (raf f c S n).2 (nI n), (raf f c S n).2 + 1) else raf f c S n
def shf (f : Nat → Int32) (n : Nat) : Nat → Int32 := fun k => if k < n then f (k + 1) else f k
theorem raf_T {f : Nat → Int32} {c S n : Nat} (h : tb S n = true) : raf f c S (n + 1) = (upd (raf f c S n).1 (raf f c S n).2 (nI n), (raf f c S n).2 + 1) := if_pos h
theorem raf_F {f : Nat → Int32} {c S n : Nat} (h : tb S n = false) : raf f c S (n + 1) = raf f c S n := if_neg (by rw [h]; decide)
theorem raf_le (f : Nat → Int32) (c S : Nat) : ∀ n, (raf f c S n).2 ≤ c + n ∧ c ≤ (raf f c S n).2
  | 0 => ⟨Nat.le_refl _, Nat.le_refl _⟩
  | n + 1 => by
    have ih := raf_le f c S n
    cases h : tb S n with
    | true => rw [raf_T h]; dsimp only; omega
    | false => rw [raf_F h]; omega
theorem raf_ext {f : Nat → Int32} {c S nv : Nat} (hS : S < 256) (h : S < 2 ^ nv) : ∀ k, nv + k ≤ 8 → raf f c S (nv + k) = raf f c S nv
  | 0, _ => rfl
  | k + 1, hk => by
    have hp : 2 ^ nv ≤ 2 ^ (nv + k) := Nat.pow_le_pow_right (by omega) (by omega)
    rw [show nv + (k + 1) = (nv + k) + 1 by omega, raf_F (tb_big S hS _ (by omega) (by omega))]
    exact raf_ext hS h k (by omega)
theorem raf_rel {f f' : Nat → Int32} {c S nv : Nat} (h : ∀ k, k < c → f k = f' k ∧ ∃ v, v < nv ∧ f' k = nI v) : ∀ n, n ≤ nv → (raf f c S n).2 = (raf f' c S n).2 ∧ ∀ k, k < (raf f c S n).2 → (raf f c S n).1 k = (raf f' c S n).1 k ∧ ∃ v, v < nv ∧ (raf f' c S n).1 k = nI v
  | 0, _ => ⟨rfl, h⟩
  | n + 1, hn => by
    obtain ⟨i1, i2⟩ := raf_rel h n (by omega)
    cases hb : tb S n with
    | true =>
      rw [raf_T hb, raf_T hb]
      refine ⟨by dsimp only; rw [i1], fun k hk => ?_⟩
      dsimp only at hk ⊢
      rw [← i1]
      by_cases hz : k = (raf f c S n).2
      · subst hz; rw [upd_s, upd_s]; exact ⟨rfl, n, by omega, rfl⟩
      · rw [upd_n hz, upd_n hz]; exact i2 k (by omega)
    | false => rw [raf_F hb, raf_F hb]; exact ⟨i1, i2⟩
theorem uK_uK (D : Nat → Nat → Int32) (k : Nat) (f f' : Nat → Int32) : uK (uK D k f) k f' = uK D k f' := by
  funext b
  by_cases h : b = k
  · subst h; rw [uK_s, uK_s]
  · rw [uK_n h, uK_n h, uK_n h]
theorem rD_app (D : Nat → Nat → Int32) (f : Nat → Int32) (c : Nat) (x : Int32) : uK (uK (rD D f c) 2 (upd f c x)) 5 (upd (D 5) 0 (nI (c + 1))) = rD D (upd f c x) (c + 1) := by
  unfold rD
  rw [uK_c (uK D 2 f) (k := 5) (k' := 2) (by omega), uK_uK, uK_uK]
theorem shf_step (f : Nat → Int32) (k : Nat) : upd (shf f k) k (f (k + 1)) = shf f (k + 1) := by
  funext j
  by_cases h : j = k
  · subst h; rw [upd_s]; simp [shf]
  · rw [upd_n h]
    unfold shf
    by_cases h2 : j < k
    · rw [if_pos h2, if_pos (by omega)]
    · rw [if_neg h2, if_neg (by omega)]
theorem shf_at (f : Nat → Int32) (k : Nat) : shf f k (k + 1) = f (k + 1) := if_neg (by omega)
theorem rD_2 (D : Nat → Nat → Int32) (f : Nat → Int32) (c : Nat) : rD D f c 2 = f := by unfold rD; rw [uK_n (by omega), uK_s]
theorem rD_5 (D : Nat → Nat → Int32) (f : Nat → Int32) (c : Nat) : rD D f c 5 = upd (D 5) 0 (nI c) := by unfold rD; rw [uK_s]
theorem rD_n {D : Nat → Nat → Int32} {f : Nat → Int32} {c k : Nat} (h2 : k ≠ 2) (h5 : k ≠ 5) : rD D f c k = D k := by unfold rD; rw [uK_n h5, uK_n h2]
section Inn
variable {d S i : Nat} {D : Nat → Nat → Int32} {w : Mem}
theorem ci_loop {f : Nat → Int32} {c : Nat} (hS : S < 256) (hc : c ≤ 9) : ∀ (k v n : Nat), v + k = 8 → k < n → f1_firstThroughInn_2 d (nI S) (nI i) n (nI v) (sO w d (rD D (raf f c S v).1 (raf f c S v).2)) = f1_firstThroughInn_64 d (nI S) (nI i) (sO w d (rD D (raf f c S 8).1 (raf f c S 8).2)) := by
  intro k
  induction k with
  | zero =>
    intro v n hv hn
    obtain ⟨n, rfl⟩ : ∃ m, n = m + 1 := ⟨n - 1, by omega⟩
    rw [f1_firstThroughInn_2]
    obtain rfl : v = 8 := by omega
    simp (disch := omega) only [bE, bO, bV, bK, nI_lit, nI_add, lt_T, lt_F, le_T, le_F, eq_T, eq_F, ltm_T, ltm_F, lem_T, lem_F, eqm_F, meq_F, cl_nI, nle_T, nle_F, nlt_T, nlt_F, ↓reduceIte, or_true, true_or, or_false, false_or, and_true, true_and, and_false, false_and, not_true_eq_false, not_false_eq_true, or_self, and_self, true_implies, ite_self, if_true]
  | succ k ih =>
    intro v n hv hn
    obtain ⟨n, rfl⟩ : ∃ m, n = m + 1 := ⟨n - 1, by omega⟩
    have i1 := ih (v + 1) n (by omega) (by omega)
    rw [f1_firstThroughInn_2]
    have b1 := bt_sh S hS v (by omega)
    have hr := raf_le f c S v
    cases h5 : tb S v with
    | true =>
      rw [raf_T h5] at i1
      simp only [h5, if_true] at b1
      simp (disch := omega) only [bE, bO, bV, bK, nI_lit, nI_add, lt_T, lt_F, le_T, le_F, eq_T, eq_F, ltm_T, ltm_F, lem_T, lem_F, eqm_F, meq_F, cl_nI, nle_T, nle_F, nlt_T, nlt_F, ↓reduceIte, or_true, true_or, or_false, false_or, and_true, true_and, and_false, false_and, not_true_eq_false, not_false_eq_true, or_self, and_self, true_implies, ite_self, sI_sO, sA_sO, sO_s, sO_n, sO_2, uK_s, uK_n, upd_s, upd_n, upd_upd, b1, rD_2, rD_5, rD_app]
      exact i1
    | false =>
      rw [raf_F h5] at i1
      simp only [h5, Bool.false_eq_true, if_false] at b1
      simp (disch := omega) only [bE, bO, bV, bK, nI_lit, nI_add, lt_T, lt_F, le_T, le_F, eq_T, eq_F, ltm_T, ltm_F, lem_T, lem_F, eqm_F, meq_F, cl_nI, nle_T, nle_F, nlt_T, nlt_F, ↓reduceIte, or_true, true_or, or_false, false_or, and_true, true_and, and_false, false_and, not_true_eq_false, not_false_eq_true, or_self, and_self, true_implies, ite_self, b1]
      exact i1
theorem ci_shift {f : Nat → Int32} {c : Nat} (hc : c ≤ 16) (x : Int32) : ∀ (k v n : Nat), v + k = c → k < n → f1_firstThroughInn_94 d (nI S) (nI i) n x (nI v) (sO w d (rD D (shf f v) c)) = f1_firstThroughInn_137 d (nI S) (nI i) x (sO w d (rD D (shf f c) c)) := by
  intro k
  induction k with
  | zero =>
    intro v n hv hn
    obtain ⟨n, rfl⟩ : ∃ m, n = m + 1 := ⟨n - 1, by omega⟩
    rw [f1_firstThroughInn_94]
    obtain rfl : v = c := by omega
    simp (disch := omega) only [bE, bO, bV, bK, nI_lit, nI_add, lt_T, lt_F, le_T, le_F, eq_T, eq_F, ltm_T, ltm_F, lem_T, lem_F, eqm_F, meq_F, cl_nI, nle_T, nle_F, nlt_T, nlt_F, ↓reduceIte, or_true, true_or, or_false, false_or, and_true, true_and, and_false, false_and, not_true_eq_false, not_false_eq_true, or_self, and_self, true_implies, ite_self, sI_sO, sA_sO, sO_s, sO_n, sO_2, uK_s, uK_n, upd_s, upd_n, upd_upd, rD_2, rD_5]
  | succ k ih =>
    intro v n hv hn
    obtain ⟨n, rfl⟩ : ∃ m, n = m + 1 := ⟨n - 1, by omega⟩
    have i1 := ih (v + 1) n (by omega) (by omega)
    rw [f1_firstThroughInn_94]
    have e : uK (rD D (shf f v) c) 2 (shf f (v + 1)) = rD D (shf f (v + 1)) c := by
      unfold rD
      rw [uK_c (uK D 2 _) (k := 5) (k' := 2) (by omega), uK_uK]
    simp (disch := omega) only [bE, bO, bV, bK, nI_lit, nI_add, lt_T, lt_F, le_T, le_F, eq_T, eq_F, ltm_T, ltm_F, lem_T, lem_F, eqm_F, meq_F, cl_nI, nle_T, nle_F, nlt_T, nlt_F, ↓reduceIte, or_true, true_or, or_false, false_or, and_true, true_and, and_false, false_and, not_true_eq_false, not_false_eq_true, or_self, and_self, true_implies, ite_self, sI_sO, sA_sO, sO_s, sO_n, sO_2, uK_s, uK_n, upd_s, upd_n, upd_upd, rD_2, rD_5, shf_at, shf_step, e]
    exact i1
/-- the row behind the first one, the rest sent home -/
def finD (D : Nat → Nat → Int32) (f : Nat → Int32) (c i sh : Nat) : Nat → Nat → Int32 := uK (rD D (shf f (c - 1)) (min (c - 1) i)) 12 (upd (D 12) 0 (nI (sh + (c - 1 - i))))
def finN (N : Nat → Int32) (f : Nat → Int32) (c i sh : Nat) : Nat → Int32 := upd (rN N (shf f (c - 1)) (min (c - 1) i)) 7 (nI (sh + (c - 1 - i)))
theorem ci_end {f : Nat → Int32} {c sh : Nat} (hc : c ≤ 17) (h0 : 1 ≤ c) (hi : i ≤ 9) (h12 : D 12 0 = nI sh) (hsh : sh < 100000000) : f1_firstThroughInn_64 d (nI S) (nI i) (sO w d (rD D f c)) = some (f 0, sO w d (finD D f c i sh)) := by
  unfold f1_firstThroughInn_64
  have e : uK (rD D f c) 5 (upd (D 5) 0 (nI (c - 1))) = rD D (shf f 0) (c - 1) := by
    unfold rD
    rw [uK_uK]
    have : shf f 0 = f := by funext k; exact if_neg (by omega)
    rw [this]
  have L := ci_shift (d := d) (S := S) (i := i) (D := D) (w := w) (f := f) (c := c - 1) (by omega) (f 0) (c - 1) 0 100000 (by omega) (by omega)
  simp (disch := omega) only [bE, bO, bV, bK, nI_lit, nI_add, lt_T, lt_F, le_T, le_F, eq_T, eq_F, ltm_T, ltm_F, lem_T, lem_F, eqm_F, meq_F, cl_nI, nle_T, nle_F, nlt_T, nlt_F, ↓reduceIte, or_true, true_or, or_false, false_or, and_true, true_and, and_false, false_and, not_true_eq_false, not_false_eq_true, or_self, and_self, true_implies, ite_self, sI_sO, sA_sO, sO_s, sO_n, sO_2, uK_s, uK_n, upd_s, upd_n, upd_upd, rD_2, rD_5, pk_sub, e]
  rw [L]
  unfold f1_firstThroughInn_137 finD
  by_cases h : c - 1 ≤ i
  · have e1 : upd (D 12) 0 (nI (sh + (c - 1 - i))) = D 12 := by
      rw [show sh + (c - 1 - i) = sh by omega, ← h12]; exact upd_id _ _
    rw [e1, uK_same (k := 12) (rD_n (by omega) (by omega)), Nat.min_eq_left h]
    simp (disch := omega) only [bE, bO, bV, bK, nI_lit, nI_add, lt_T, lt_F, le_T, le_F, eq_T, eq_F, ltm_T, ltm_F, lem_T, lem_F, eqm_F, meq_F, cl_nI, nle_T, nle_F, nlt_T, nlt_F, ↓reduceIte, or_true, true_or, or_false, false_or, and_true, true_and, and_false, false_and, not_true_eq_false, not_false_eq_true, or_self, and_self, true_implies, ite_self, sI_sO, sA_sO, sO_s, sO_n, sO_2, uK_s, uK_n, upd_s, upd_n, upd_upd, rD_5]
  · rw [Nat.min_eq_right (by omega)]
    simp (disch := omega) only [bE, bO, bV, bK, nI_lit, nI_add, lt_T, lt_F, le_T, le_F, eq_T, eq_F, ltm_T, ltm_F, lem_T, lem_F, eqm_F, meq_F, cl_nI, nle_T, nle_F, nlt_T, nlt_F, ↓reduceIte, or_true, true_or, or_false, false_or, and_true, true_and, and_false, false_and, not_true_eq_false, not_false_eq_true, or_self, and_self, true_implies, ite_self, sI_sO, sA_sO, sO_s, sO_n, sO_2, uK_s, uK_n, upd_s, upd_n, upd_upd, rD_5, rD_n, h12, pk_sub]
    unfold rD
    rw [uK_c (uK (uK D 2 _) 5 _) (k := 12) (k' := 5) (by omega), uK_uK]
theorem ci_none {f : Nat → Int32} : f1_firstThroughInn_64 d (nI S) (nI i) (sO w d (rD D f 0)) = some (-1, sO w d (rD D f 0)) := by
  unfold f1_firstThroughInn_64
  simp (disch := omega) only [bE, bO, bV, bK, nI_lit, nI_add, lt_T, lt_F, le_T, le_F, eq_T, eq_F, ltm_T, ltm_F, lem_T, lem_F, eqm_F, meq_F, cl_nI, nle_T, nle_F, nlt_T, nlt_F, ↓reduceIte, or_true, true_or, or_false, false_or, and_true, true_and, and_false, false_and, not_true_eq_false, not_false_eq_true, or_self, and_self, true_implies, ite_self, sI_sO, sA_sO, sO_s, sO_n, sO_2, uK_s, uK_n, upd_s, upd_n, upd_upd, rD_5]
theorem rD_0 {c : Nat} (h : D 5 0 = nI c) : rD D (D 2) c = D := by
  unfold rD
  rw [uK_id, ← h, upd_id, uK_id]
/-- the reference's row -/
theorem rN_9 (N f : Nat → Int32) (c : Nat) : rN N f c 9 = nI c := if_pos (Eq.refl 9)
theorem rN_r {N f : Nat → Int32} {c k : Nat} (h : k < 17) : rN N f c (26 + k) = f k := by
  unfold rN
  rw [if_neg (by omega), if_pos (by omega), show 26 + k - 26 = k by omega]
theorem rN_n {N f : Nat → Int32} {c j : Nat} (h : j ≠ 9) (h2 : j < 26 ∨ 43 ≤ j) : rN N f c j = N j := by
  unfold rN
  rw [if_neg h, if_neg (by omega)]
theorem rN_app {N f : Nat → Int32} {c : Nat} (hc : c < 17) (x : Int32) : upd (upd (rN N f c) (26 + c) x) 9 (nI (c + 1)) = rN N (upd f c x) (c + 1) := by
  funext j
  by_cases h9 : j = 9
  · subst h9; rw [upd_s, rN_9]
  · rw [upd_n h9]
    by_cases hr : 26 ≤ j ∧ j < 43
    · obtain ⟨k, rfl⟩ : ∃ k, j = 26 + k := ⟨j - 26, by omega⟩
      rw [rN_r (by omega)]
      by_cases hk : k = c
      · subst hk; rw [upd_s, upd_s]
      · rw [upd_n (by omega), upd_n hk, rN_r (by omega)]
    · rw [upd_n (by omega), rN_n h9 (by omega), rN_n h9 (by omega)]
theorem rN_dec {N f : Nat → Int32} {c c' : Nat} : upd (rN N f c) 9 (nI c') = rN N f c' := by
  funext j
  by_cases h9 : j = 9
  · subst h9; rw [upd_s, rN_9]
  · rw [upd_n h9]
    unfold rN
    rw [if_neg h9, if_neg h9]
theorem rN_sh {N f : Nat → Int32} {c k : Nat} (hk : k < 16) : upd (rN N (shf f k) c) (26 + k) (f (k + 1)) = rN N (shf f (k + 1)) c := by
  funext j
  by_cases h9 : j = 9
  · subst h9; rw [upd_n (by omega), rN_9, rN_9]
  · by_cases hr : 26 ≤ j ∧ j < 43
    · obtain ⟨q, rfl⟩ : ∃ q, j = 26 + q := ⟨j - 26, by omega⟩
      rw [rN_r (by omega), ← shf_step]
      by_cases hq : q = k
      · subst hq; rw [upd_s, upd_s]
      · rw [upd_n (by omega), upd_n hq, rN_r (by omega)]
    · rw [upd_n (by omega), rN_n h9 (by omega), rN_n h9 (by omega)]
theorem rN_0 {N : Nat → Int32} {c : Nat} (h : N 9 = nI c) : rN N (fun k => N (26 + k)) c = N := by
  funext j
  by_cases h9 : j = 9
  · subst h9; rw [rN_9, h]
  · by_cases hr : 26 ≤ j ∧ j < 43
    · obtain ⟨q, rfl⟩ : ∃ q, j = 26 + q := ⟨j - 26, by omega⟩
      exact rN_r (by omega)
    · exact rN_n h9 (by omega)
theorem mi_loop {N f : Nat → Int32} {c nv : Nat} (hnv : nv ≤ 8) (h3 : w.1 32 3 0 = nI nv) (hS : S < 256) (hc : c ≤ 9) : ∀ (k v n : Nat), v + k = nv → k < n → f8_fromRow_2 (nI S) (nI i) n (nI v) (sA w 32 11 (rN N (raf f c S v).1 (raf f c S v).2)) = f8_fromRow_51 (nI S) (nI i) (sA w 32 11 (rN N (raf f c S nv).1 (raf f c S nv).2)) := by
  intro k
  induction k with
  | zero =>
    intro v n hv hn
    obtain ⟨n, rfl⟩ : ∃ m, n = m + 1 := ⟨n - 1, by omega⟩
    rw [f8_fromRow_2]
    obtain rfl : v = nv := by omega
    simp (disch := omega) only [bE, bO, bV, bK, nI_lit, nI_add, lt_T, lt_F, le_T, le_F, eq_T, eq_F, ltm_T, ltm_F, lem_T, lem_F, eqm_F, meq_F, cl_nI, nle_T, nle_F, nlt_T, nlt_F, ↓reduceIte, or_true, true_or, or_false, false_or, and_true, true_and, and_false, false_and, not_true_eq_false, not_false_eq_true, or_self, and_self, true_implies, ite_self, sI_A, kx_sA, ky_sA, ob_sA, sA_2, upd_s, upd_n, upd_upd, h3]
  | succ k ih =>
    intro v n hv hn
    obtain ⟨n, rfl⟩ : ∃ m, n = m + 1 := ⟨n - 1, by omega⟩
    have i1 := ih (v + 1) n (by omega) (by omega)
    rw [f8_fromRow_2]
    have b1 := hasm_ok (w := sA w 32 11 (rN N (raf f c S v).1 (raf f c S v).2)) (v := v) hS (by omega)
    have hr := raf_le f c S v
    cases h5 : tb S v with
    | true =>
      rw [raf_T h5] at i1
      simp only [h5, if_true] at b1
      simp (disch := omega) only [bE, bO, bV, bK, nI_lit, nI_add, lt_T, lt_F, le_T, le_F, eq_T, eq_F, ltm_T, ltm_F, lem_T, lem_F, eqm_F, meq_F, cl_nI, nle_T, nle_F, nlt_T, nlt_F, ↓reduceIte, or_true, true_or, or_false, false_or, and_true, true_and, and_false, false_and, not_true_eq_false, not_false_eq_true, or_self, and_self, true_implies, ite_self, sI_A, kx_sA, ky_sA, ob_sA, sA_2, upd_s, upd_n, upd_upd, h3, b1, rN_9, rN_app]
      exact i1
    | false =>
      rw [raf_F h5] at i1
      simp only [h5, Bool.false_eq_true, if_false] at b1
      simp (disch := omega) only [bE, bO, bV, bK, nI_lit, nI_add, lt_T, lt_F, le_T, le_F, eq_T, eq_F, ltm_T, ltm_F, lem_T, lem_F, eqm_F, meq_F, cl_nI, nle_T, nle_F, nlt_T, nlt_F, ↓reduceIte, or_true, true_or, or_false, false_or, and_true, true_and, and_false, false_and, not_true_eq_false, not_false_eq_true, or_self, and_self, true_implies, ite_self, sI_A, kx_sA, ky_sA, ob_sA, sA_2, upd_s, upd_n, upd_upd, h3, b1]
      exact i1
theorem mi_shift {N f : Nat → Int32} {c : Nat} (hc : c ≤ 16) (x : Int32) : ∀ (k v n : Nat), v + k = c → k < n → f8_fromRow_85 (nI S) (nI i) n x (nI v) (sA w 32 11 (rN N (shf f v) c)) = f8_fromRow_123 (nI S) (nI i) x (sA w 32 11 (rN N (shf f c) c)) := by
  intro k
  induction k with
  | zero =>
    intro v n hv hn
    obtain ⟨n, rfl⟩ : ∃ m, n = m + 1 := ⟨n - 1, by omega⟩
    rw [f8_fromRow_85]
    obtain rfl : v = c := by omega
    simp (disch := omega) only [bE, bO, bV, bK, nI_lit, nI_add, lt_T, lt_F, le_T, le_F, eq_T, eq_F, ltm_T, ltm_F, lem_T, lem_F, eqm_F, meq_F, cl_nI, nle_T, nle_F, nlt_T, nlt_F, ↓reduceIte, or_true, true_or, or_false, false_or, and_true, true_and, and_false, false_and, not_true_eq_false, not_false_eq_true, or_self, and_self, true_implies, ite_self, sI_A, kx_sA, ky_sA, ob_sA, sA_2, upd_s, upd_n, upd_upd, rN_9]
  | succ k ih =>
    intro v n hv hn
    obtain ⟨n, rfl⟩ : ∃ m, n = m + 1 := ⟨n - 1, by omega⟩
    have i1 := ih (v + 1) n (by omega) (by omega)
    rw [f8_fromRow_85]
    have e : rN N (shf f v) c (27 + v) = f (v + 1) := by
      rw [show 27 + v = 26 + (v + 1) by omega, rN_r (by omega), shf_at]
    simp (disch := omega) only [bE, bO, bV, bK, nI_lit, nI_add, lt_T, lt_F, le_T, le_F, eq_T, eq_F, ltm_T, ltm_F, lem_T, lem_F, eqm_F, meq_F, cl_nI, nle_T, nle_F, nlt_T, nlt_F, ↓reduceIte, or_true, true_or, or_false, false_or, and_true, true_and, and_false, false_and, not_true_eq_false, not_false_eq_true, or_self, and_self, true_implies, ite_self, sI_A, kx_sA, ky_sA, ob_sA, sA_2, upd_s, upd_n, upd_upd, rN_9, e, rN_sh]
    exact i1
theorem mi_end {N f : Nat → Int32} {c sh : Nat} (hc : c ≤ 17) (h0 : 1 ≤ c) (hi : i ≤ 9) (h12 : N 7 = nI sh) (hsh : sh < 100000000) : f8_fromRow_51 (nI S) (nI i) (sA w 32 11 (rN N f c)) = some (f 0, sA w 32 11 (finN N f c i sh)) := by
  unfold f8_fromRow_51
  have e0 : rN N f c 26 = f 0 := rN_r (k := 0) (by omega)
  have e : rN N f (c - 1) = rN N (shf f 0) (c - 1) := by
    have : shf f 0 = f := by funext k; exact if_neg (by omega)
    rw [this]
  have L := mi_shift (S := S) (i := i) (w := w) (N := N) (f := f) (c := c - 1) (by omega) (f 0) (c - 1) 0 100000 (by omega) (by omega)
  simp (disch := omega) only [bE, bO, bV, bK, nI_lit, nI_add, lt_T, lt_F, le_T, le_F, eq_T, eq_F, ltm_T, ltm_F, lem_T, lem_F, eqm_F, meq_F, cl_nI, nle_T, nle_F, nlt_T, nlt_F, ↓reduceIte, or_true, true_or, or_false, false_or, and_true, true_and, and_false, false_and, not_true_eq_false, not_false_eq_true, or_self, and_self, true_implies, ite_self, sI_A, kx_sA, ky_sA, ob_sA, sA_2, upd_s, upd_n, upd_upd, rN_9, e0, pk_sub, rN_dec]
  rw [e, L]
  unfold f8_fromRow_123 finN
  have e7 : ∀ c', rN N (shf f (c - 1)) c' 7 = nI sh := fun c' => by rw [rN_n (by omega) (by omega), h12]
  by_cases h : c - 1 ≤ i
  · rw [show sh + (c - 1 - i) = sh by omega, ← e7 (min (c - 1) i), upd_id, Nat.min_eq_left h]
    simp (disch := omega) only [bE, bO, bV, bK, nI_lit, nI_add, lt_T, lt_F, le_T, le_F, eq_T, eq_F, ltm_T, ltm_F, lem_T, lem_F, eqm_F, meq_F, cl_nI, nle_T, nle_F, nlt_T, nlt_F, ↓reduceIte, or_true, true_or, or_false, false_or, and_true, true_and, and_false, false_and, not_true_eq_false, not_false_eq_true, or_self, and_self, true_implies, ite_self, sI_A, kx_sA, ky_sA, ob_sA, sA_2, upd_s, upd_n, upd_upd, rN_9]
  · rw [Nat.min_eq_right (by omega)]
    simp (disch := omega) only [bE, bO, bV, bK, nI_lit, nI_add, lt_T, lt_F, le_T, le_F, eq_T, eq_F, ltm_T, ltm_F, lem_T, lem_F, eqm_F, meq_F, cl_nI, nle_T, nle_F, nlt_T, nlt_F, ↓reduceIte, or_true, true_or, or_false, false_or, and_true, true_and, and_false, false_and, not_true_eq_false, not_false_eq_true, or_self, and_self, true_implies, ite_self, sI_A, kx_sA, ky_sA, ob_sA, sA_2, upd_s, upd_n, upd_upd, rN_9, e7, pk_sub]
    rw [upd_c _ (i := 7) (j := 9) (by omega), rN_dec]
theorem mi_none {N f : Nat → Int32} : f8_fromRow_51 (nI S) (nI i) (sA w 32 11 (rN N f 0)) = some (-1, sA w 32 11 (rN N f 0)) := by
  unfold f8_fromRow_51
  simp (disch := omega) only [bE, bO, bV, bK, nI_lit, nI_add, lt_T, lt_F, le_T, le_F, eq_T, eq_F, ltm_T, ltm_F, lem_T, lem_F, eqm_F, meq_F, cl_nI, nle_T, nle_F, nlt_T, nlt_F, ↓reduceIte, or_true, true_or, or_false, false_or, and_true, true_and, and_false, false_and, not_true_eq_false, not_false_eq_true, or_self, and_self, true_implies, ite_self, sI_A, kx_sA, ky_sA, ob_sA, sA_2, upd_s, upd_n, upd_upd, rN_9]
end Inn
