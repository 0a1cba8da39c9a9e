/-! one day: the class's live, the reference's pass -/
def sO (w : Mem) (d : Nat) (D : Nat → Nat → Int32) : Mem := (fun a => if a = d then D else w.1 a, w.2)
def uK (D : Nat → Nat → Int32) (k : Nat) (f : Nat → Int32) : Nat → Nat → Int32 := fun b => if b = k then f else D b
theorem uK_s (D : Nat → Nat → Int32) (k : Nat) (f : Nat → Int32) : uK D k f k = f := if_pos (Eq.refl k)
theorem uK_n {D : Nat → Nat → Int32} {k b : Nat} {f : Nat → Int32} (h : b ≠ k) : uK D k f b = D b := if_neg h
theorem sO_s (w : Mem) (d : Nat) (D : Nat → Nat → Int32) : (sO w d D).1 d = D := if_pos (Eq.refl d)
theorem sO_n {w : Mem} {d a : Nat} {D : Nat → Nat → Int32} (h : a ≠ d) : (sO w d D).1 a = w.1 a := if_neg h
theorem sO_2 (w : Mem) (d : Nat) (D : Nat → Nat → Int32) : (sO w d D).2 = w.2 := by
  have h : w.2 = w.2 := rfl
  exact h
theorem sO_id (w : Mem) (d : Nat) : sO w d (w.1 d) = w := by
  apply Prod.ext
  · funext a
    by_cases h : a = d
    · subst h; exact sO_s _ _ _
    · exact sO_n h
  · rfl
theorem sO_sO (w : Mem) (d : Nat) (D D' : Nat → Nat → Int32) : sO (sO w d D) d D' = sO w d D' := by
  apply Prod.ext
  · funext a
    by_cases h : a = d
    · subst h; rw [sO_s, sO_s]
    · rw [sO_n h, sO_n h, sO_n h]
  · rfl
theorem sI_sO (w : Mem) (d : Nat) (D : Nat → Nat → Int32) (k i : Nat) (x : Int32) : sI (sO w d D) d k i x = sO w d (uK D k (upd (D k) i x)) := by
  apply Prod.ext
  · funext a
    by_cases h : a = d
    · subst h
      rw [sO_s]
      funext b
      by_cases hb : b = k
      · subst hb; rw [kx_sI, sO_s, uK_s]
      · rw [ky_sI (fun z => hb z.2), sO_s, uK_n hb]
    · rw [ob_sI h, sO_n h, sO_n h]
  · rfl
theorem sA_sO (w : Mem) (d : Nat) (D : Nat → Nat → Int32) (k : Nat) (f : Nat → Int32) : sA (sO w d D) d k f = sO w d (uK D k f) := by
  apply Prod.ext
  · funext a
    by_cases h : a = d
    · subst h
      rw [sO_s]
      funext b
      by_cases hb : b = k
      · subst hb; rw [kx_sA, uK_s]
      · rw [ky_sA (fun z => hb z.2), sO_s, uK_n hb]
    · rw [ob_sA h, sO_n h, sO_n h]
  · rfl
theorem sA_id (w : Mem) (d k : Nat) : sA w d k (w.1 d k) = w := by
  apply Prod.ext
  · funext a b
    rw [rd_sA]
    by_cases h : a = d ∧ b = k
    · rw [if_pos h, h.1, h.2]
    · rw [if_neg h]
  · rfl
theorem sA_sA (w : Mem) (d k : Nat) (f f' : Nat → Int32) : sA (sA w d k f) d k f' = sA w d k f' := by
  apply Prod.ext
  · funext a b
    rw [rd_sA, rd_sA, rd_sA]
    by_cases h : a = d ∧ b = k
    · rw [if_pos h, if_pos h]
    · rw [if_neg h, if_neg h, if_neg h]
  · rfl
theorem sI_A (w : Mem) (d k : Nat) (f : Nat → Int32) (i : Nat) (x : Int32) : sI (sA w d k f) d k i x = sA w d k (upd f i x) := by
  rw [sI_sA, kx_sA, sA_sA]
theorem sA_2 (w : Mem) (d k : Nat) (f : Nat → Int32) : (sA w d k f).2 = w.2 := by
  have h : w.2 = w.2 := rfl
  exact h
theorem upd_id (f : Nat → Int32) (i : Nat) : upd f i (f i) = f := by
  funext j
  by_cases h : j = i
  · subst h; exact upd_s _ _ _
  · exact upd_n h
theorem upd_upd (f : Nat → Int32) (i : Nat) (x y : Int32) : upd (upd f i x) i y = upd f i y := by
  funext j
  by_cases h : j = i
  · subst h; rw [upd_s, upd_s]
  · rw [upd_n h, upd_n h, upd_n h]
/-- feet -/
def ftn (ro : Nat → Nat) (S : Nat) : Nat → Nat
  | 0 => 0
  | n + 1 => ftn ro S n + (if tb S n then 2 * ro n else 0)
theorem ftn_T {ro : Nat → Nat} {S n : Nat} (h : tb S n = true) : ftn ro S (n + 1) = ftn ro S n + 2 * ro n := by
  show ftn ro S n + (if tb S n then 2 * ro n else 0) = _
  rw [if_pos h]
theorem ftn_F {ro : Nat → Nat} {S n : Nat} (h : tb S n = false) : ftn ro S (n + 1) = ftn ro S n := by
  show ftn ro S n + (if tb S n then 2 * ro n else 0) = _
  rw [h, if_neg (by decide), Nat.add_zero]
section Rock
variable {nv K Y I F Fo : Nat} {ro pe fe fs fg : Nat → Nat} {g : Nat} {w : Mem} {M : Nat → Nat → Int32}
theorem feet_loop (h : RG nv K Y I F Fo ro pe fe fs fg (w.1 g) (w.2.1 g) M) {S : Nat} (hS : S < 256) :
    ∀ (k v n : Nat), v + k = nv → k < n → f6_feetOf_4 g (nI S) n (nI (ftn ro S v)) (nI v) w = some (nI (ftn ro S nv), w) := by
  have a4 := h.2.2.2.2.2.1.1
  have hnv := h.1.1
  have a7 := h.2.2.2.2.2.2.2.2.1
  intro k
  induction k with
  | zero =>
    intro v n hv hn
    obtain ⟨n, rfl⟩ : ∃ m, n = m + 1 := ⟨n - 1, by omega⟩
    rw [f6_feetOf_4]
    obtain rfl : v = nv := by omega
    simp (disch := omega) only [bE, bO, bV, bK, nI_lit, nI_add, lt_T, lt_F, le_T, le_F, eq_T, eq_F, ltm_T, ltm_F, lem_T, lem_F, eqm_F, meq_F, cl_nI, nle_T, nle_F, nlt_T, nlt_F, ↓reduceIte, or_true, true_or, or_false, false_or, and_true, true_and, and_false, false_and, not_true_eq_false, not_false_eq_true, or_self, and_self, true_implies, ite_self, a4]
  | succ k ih =>
    intro v n hv hn
    obtain ⟨n, rfl⟩ : ∃ m, n = m + 1 := ⟨n - 1, by omega⟩
    have i1 := ih (v + 1) n (by omega) (by omega)
    rw [f6_feetOf_4]
    have b1 := bt_sh S hS v (by omega)
    have r := (a7 v (by omega)).2.1.1
    cases h5 : tb S v with
    | true =>
      rw [ftn_T h5] at i1
      simp only [h5, if_true] at b1
      simp (disch := omega) only [bE, bO, bV, bK, nI_lit, nI_add, lt_T, lt_F, le_T, le_F, eq_T, eq_F, ltm_T, ltm_F, lem_T, lem_F, eqm_F, meq_F, cl_nI, nle_T, nle_F, nlt_T, nlt_F, ↓reduceIte, or_true, true_or, or_false, false_or, and_true, true_and, and_false, false_and, not_true_eq_false, not_false_eq_true, or_self, and_self, true_implies, ite_self, a4, b1, r, pk_mul]
      exact i1
    | false =>
      rw [ftn_F h5] at i1
      simp only [h5, Bool.false_eq_true, if_false] at b1
      simp (disch := omega) only [bE, bO, bV, bK, nI_lit, nI_add, lt_T, lt_F, le_T, le_F, eq_T, eq_F, ltm_T, ltm_F, lem_T, lem_F, eqm_F, meq_F, cl_nI, nle_T, nle_F, nlt_T, nlt_F, ↓reduceIte, or_true, true_or, or_false, false_or, and_true, true_and, and_false, false_and, not_true_eq_false, not_false_eq_true, or_self, and_self, true_implies, ite_self, a4, b1]
      exact i1
theorem feet_ok (h : RG nv K Y I F Fo ro pe fe fs fg (w.1 g) (w.2.1 g) M) {S : Nat} (hS : S < 256) : f6_feetOf g (nI S) w = some (nI (ftn ro S nv), w) := by
  have hnv := h.1.1
  exact feet_loop h hS nv 0 100000 (by omega) (by omega)
end Rock
/-- counting bits -/
def pcn (m : Nat) : Nat → Nat
  | 0 => 0
  | n + 1 => pcn m n + (if tb m n then 1 else 0)
theorem pcn_9 : ∀ m, m < 256 → pcn m 9 = pc m := by decide +kernel
theorem bits_loop {m : Nat} (hm : m < 256) (w : Mem) : ∀ (k v n : Nat), v + k = 9 → k < n → f8_bits_4 (nI m) n (nI (pcn m v)) (nI v) w = some (nI (pcn m 9), w) := by
  intro k
  induction k with
  | zero =>
    intro v n hv hn
    obtain ⟨n, rfl⟩ : ∃ m, n = m + 1 := ⟨n - 1, by omega⟩
    rw [f8_bits_4]
    obtain rfl : v = 9 := by omega
    simp (disch := omega) only [bE, bO, bV, bK, nI_lit, nI_add, lt_T, lt_F, le_T, le_F, eq_T, eq_F, ltm_T, ltm_F, lem_T, lem_F, eqm_F, meq_F, cl_nI, nle_T, nle_F, nlt_T, nlt_F, ↓reduceIte, or_true, true_or, or_false, false_or, and_true, true_and, and_false, false_and, not_true_eq_false, not_false_eq_true, or_self, and_self, true_implies, ite_self, if_true]
  | succ k ih =>
    intro v n hv hn
    obtain ⟨n, rfl⟩ : ∃ m, n = m + 1 := ⟨n - 1, by omega⟩
    have i1 := ih (v + 1) n (by omega) (by omega)
    rw [f8_bits_4]
    have b1 := bt_sh m hm v (by omega)
    have e : pcn m (v + 1) = pcn m v + (if tb m v then 1 else 0) := rfl
    rw [e] at i1
    cases h5 : tb m v with
    | true =>
      simp only [h5, if_true] at b1 i1
      simp (disch := omega) only [bE, bO, bV, bK, nI_lit, nI_add, lt_T, lt_F, le_T, le_F, eq_T, eq_F, ltm_T, ltm_F, lem_T, lem_F, eqm_F, meq_F, cl_nI, nle_T, nle_F, nlt_T, nlt_F, ↓reduceIte, or_true, true_or, or_false, false_or, and_true, true_and, and_false, false_and, not_true_eq_false, not_false_eq_true, or_self, and_self, true_implies, ite_self, b1]
      exact i1
    | false =>
      simp only [h5, Bool.false_eq_true, if_false] at b1 i1
      simp (disch := omega) only [bE, bO, bV, bK, nI_lit, nI_add, lt_T, lt_F, le_T, le_F, eq_T, eq_F, ltm_T, ltm_F, lem_T, lem_F, eqm_F, meq_F, cl_nI, nle_T, nle_F, nlt_T, nlt_F, ↓reduceIte, or_true, true_or, or_false, false_or, and_true, true_and, and_false, false_and, not_true_eq_false, not_false_eq_true, or_self, and_self, true_implies, ite_self, b1]
      exact i1
theorem bits_ok {m : Nat} (hm : m < 256) (w : Mem) : f8_bits (nI m) w = some (nI (pc m), w) := by
  have h := bits_loop hm w 9 0 100000 (by omega) (by omega)
  rw [pcn_9 m hm] at h
  exact h
theorem first_ex : ∀ m, m < 256 → pc m = 1 → ∃ v, v < 8 ∧ tb m v = true ∧ ∀ u, u < v → tb m u = false := by decide +kernel
theorem first_loop {m v : Nat} (hm : m < 256) (hv : v < 8) (h1 : tb m v = true) (h2 : ∀ u, u < v → tb m u = false) (w : Mem) : ∀ (k u n : Nat), u + k = v → k < n → f7_firstOf_2 (nI m) n (nI u) w = some (nI v, w) := by
  intro k
  induction k with
  | zero =>
    intro u n hu hn
    obtain ⟨n, rfl⟩ : ∃ m, n = m + 1 := ⟨n - 1, by omega⟩
    rw [f7_firstOf_2]
    obtain rfl : u = v := by omega
    have b1 := bt_sh m hm u (by omega)
    simp only [h1, if_true] at b1
    simp (disch := omega) only [bE, bO, bV, bK, nI_lit, nI_add, lt_T, lt_F, le_T, le_F, eq_T, eq_F, ltm_T, ltm_F, lem_T, lem_F, eqm_F, meq_F, cl_nI, nle_T, nle_F, nlt_T, nlt_F, ↓reduceIte, or_true, true_or, or_false, false_or, and_true, true_and, and_false, false_and, not_true_eq_false, not_false_eq_true, or_self, and_self, true_implies, ite_self, b1]
  | succ k ih =>
    intro u n hu hn
    obtain ⟨n, rfl⟩ : ∃ m, n = m + 1 := ⟨n - 1, by omega⟩
    have i1 := ih (u + 1) n (by omega) (by omega)
    rw [f7_firstOf_2]
    have b1 := bt_sh m hm u (by omega)
    simp only [h2 u (by omega), Bool.false_eq_true, if_false] at b1
    simp (disch := omega) only [bE, bO, bV, bK, nI_lit, nI_add, lt_T, lt_F, le_T, le_F, eq_T, eq_F, ltm_T, ltm_F, lem_T, lem_F, eqm_F, meq_F, cl_nI, nle_T, nle_F, nlt_T, nlt_F, ↓reduceIte, or_true, true_or, or_false, false_or, and_true, true_and, and_false, false_and, not_true_eq_false, not_false_eq_true, or_self, and_self, true_implies, ite_self, b1]
    exact i1
theorem least_loop {m v : Nat} (hm : m < 256) (hv : v < 8) (h1 : tb m v = true) (h2 : ∀ u, u < v → tb m u = false) (w : Mem) : ∀ (k u n : Nat), u + k = v → k < n → f8_least_2 (nI m) n (nI u) w = some (nI v, w) := by
  intro k
  induction k with
  | zero =>
    intro u n hu hn
    obtain ⟨n, rfl⟩ : ∃ m, n = m + 1 := ⟨n - 1, by omega⟩
    rw [f8_least_2]
    obtain rfl : u = v := by omega
    have b1 := hasm_ok (w := w) (v := u) hm (by omega)
    simp only [h1, if_true] at b1
    simp (disch := omega) only [bE, bO, bV, bK, nI_lit, nI_add, lt_T, lt_F, le_T, le_F, eq_T, eq_F, ltm_T, ltm_F, lem_T, lem_F, eqm_F, meq_F, cl_nI, nle_T, nle_F, nlt_T, nlt_F, ↓reduceIte, or_true, true_or, or_false, false_or, and_true, true_and, and_false, false_and, not_true_eq_false, not_false_eq_true, or_self, and_self, true_implies, ite_self, b1]
  | succ k ih =>
    intro u n hu hn
    obtain ⟨n, rfl⟩ : ∃ m, n = m + 1 := ⟨n - 1, by omega⟩
    have i1 := ih (u + 1) n (by omega) (by omega)
    rw [f8_least_2]
    have b1 := hasm_ok (w := w) (v := u) hm (by omega)
    simp only [h2 u (by omega), Bool.false_eq_true, if_false] at b1
    simp (disch := omega) only [bE, bO, bV, bK, nI_lit, nI_add, lt_T, lt_F, le_T, le_F, eq_T, eq_F, ltm_T, ltm_F, lem_T, lem_F, eqm_F, meq_F, cl_nI, nle_T, nle_F, nlt_T, nlt_F, ↓reduceIte, or_true, true_or, or_false, false_or, and_true, true_and, and_false, false_and, not_true_eq_false, not_false_eq_true, or_self, and_self, true_implies, ite_self, b1]
    exact i1
theorem outc_ok {m : Nat} (hm : m < 256) (w : Mem) : f7_outcomeOf (nI m) w = some (if pc m = 0 then nI 0 else if pc m = 1 then nI 1 else nI 2, w) := by
  have := pc_le m hm
  unfold f7_outcomeOf
  rw [bitCount_ok hm w, bO]
  by_cases h0 : pc m = 0
  · simp (disch := omega) only [bE, bO, bV, bK, nI_lit, nI_add, lt_T, lt_F, le_T, le_F, eq_T, eq_F, ltm_T, ltm_F, lem_T, lem_F, eqm_F, meq_F, cl_nI, nle_T, nle_F, nlt_T, nlt_F, ↓reduceIte, or_true, true_or, or_false, false_or, and_true, true_and, and_false, false_and, not_true_eq_false, not_false_eq_true, or_self, and_self, true_implies, ite_self, h0]
  · by_cases h1 : pc m = 1
    · simp (disch := omega) only [bE, bO, bV, bK, nI_lit, nI_add, lt_T, lt_F, le_T, le_F, eq_T, eq_F, ltm_T, ltm_F, lem_T, lem_F, eqm_F, meq_F, cl_nI, nle_T, nle_F, nlt_T, nlt_F, ↓reduceIte, or_true, true_or, or_false, false_or, and_true, true_and, and_false, false_and, not_true_eq_false, not_false_eq_true, or_self, and_self, true_implies, ite_self, h1]
      rfl
    · simp (disch := omega) only [bE, bO, bV, bK, nI_lit, nI_add, lt_T, lt_F, le_T, le_F, eq_T, eq_F, ltm_T, ltm_F, lem_T, lem_F, eqm_F, meq_F, cl_nI, nle_T, nle_F, nlt_T, nlt_F, ↓reduceIte, or_true, true_or, or_false, false_or, and_true, true_and, and_false, false_and, not_true_eq_false, not_false_eq_true, or_self, and_self, true_implies, ite_self, h0, h1]
