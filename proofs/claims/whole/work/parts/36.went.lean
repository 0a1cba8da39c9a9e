/-! went -/
def how (c : Nat) (b : Bool) : Nat := if 1 < c + (if b then 1 else 0) then 2 else c + (if b then 1 else 0)
theorem how_le (c : Nat) (b : Bool) : how c b ≤ 2 := by
  unfold how
  by_cases h : 1 < c + (if b then 1 else 0)
  · rw [if_pos h]; omega
  · rw [if_neg h]; omega
theorem how_T (c : Nat) : how c true = if 1 < c + 1 then 2 else c + 1 := rfl
theorem how_F (c : Nat) : how c false = if 1 < c then 2 else c := rfl
theorem pc_ic : ∀ m, m < 256 → ∀ v, v < 8 → pc (ins (clr m v) v) = pc (clr m v) + 1 := by decide +kernel
theorem and1 (y : Int32) : y &&& nI 1 = nI 0 ∨ y &&& nI 1 = nI 1 := by
  have h : (y &&& 1).toBitVec.toNat = y.toBitVec.toNat % 2 := by
    rw [Int32.toBitVec_and, BitVec.toNat_and, show (1 : Int32).toBitVec.toNat = 2 ^ 1 - 1 from rfl, Nat.and_two_pow_sub_one_eq_mod]
  rcases Nat.mod_two_eq_zero_or_one y.toBitVec.toNat with h0 | h0
  · left
    apply Int32.toBitVec_inj.mp
    apply BitVec.eq_of_toNat_eq
    exact h.trans h0
  · right
    apply Int32.toBitVec_inj.mp
    apply BitVec.eq_of_toNat_eq
    exact h.trans h0
section Rock
variable {nv K Y I F Fo : Nat} {ro pe fe fs fg : Nat → Nat} {G : Nat → Nat → Int32} {GL : Nat → Nat → Int64} {M : Nat → Nat → Int32} {w : Mem} {g : Nat}
theorem per_ok (h : RG nv K Y I F Fo ro pe fe fs fg (w.1 g) (w.2.1 g) M) {v : Nat} (hv : v < nv) : f6_periodOf g (nI v) w = some (nI (pe v), w) := by
  obtain ⟨⟨q1, -⟩, -, -, -, -, -, -, -, r7, -⟩ := h
  obtain ⟨⟨y1, y2, y3, y4⟩, -, ⟨y5, y6⟩, -⟩ := r7 v hv
  have e2 := jmax1 y2 (by omega)
  unfold f6_periodOf
  simp (disch := omega) only [bE, bO, bV, bK, nI_lit, nI_add, lt_T, lt_F, le_T, le_F, eq_T, eq_F, ltm_T, ltm_F, lem_T, lem_F, eqm_F, meq_F, cl_nI, nle_T, nle_F, nlt_T, nlt_F, ↓reduceIte, or_true, true_or, or_false, false_or, and_true, true_and, and_false, false_and, not_true_eq_false, not_false_eq_true, or_self, and_self, true_implies, ite_self, y5, e2]
theorem oc_ok (h : RG nv K Y I F Fo ro pe fe fs fg (w.1 g) (w.2.1 g) M) {st v t : Nat} (e : w.1 0 4 0 = nI st) (hs : st < 256) (hv : v < nv) (o : Int32) (ht : t < 2147483648) : f1_outcomeWith 0 g (nI v) o (nI t) w = some (nI (how (pc (clr (gm nv ro pe (w.1 0 0) st F Fo fs fg t) v)) (gb (ro v) (pe v) o (anyB F fs t) (anyB Fo fg t) t)), w) := by
  have hnv := h.1.1
  have c1 : f1_comersByCalendar 0 g (nI t) w = some (nI (gm nv ro pe (w.1 0 0) st F Fo fs fg t), w) := cal_ok h e hs ht
  have c2 := brings_ok h hv o ht
  have c3 := gm_lt (ro := ro) (pe := pe) (F := F) (Fo := Fo) (fs := fs) (fg := fg) hnv (w.1 0 0) st t
  generalize gm nv ro pe (w.1 0 0) st F Fo fs fg t = m at c1 c3 ⊢
  have b1 := bt_clr m c3.1 v (by omega)
  have b2 := bt_lt m c3.1 v (by omega)
  have b3 := bt_or (clr m v) b2.2 v (by omega)
  have b4 := pc_ic m c3.1 v (by omega)
  have b5 := bt_lt (clr m v) b2.2 v (by omega)
  unfold f1_outcomeWith f1_outcomeWith_37
  cases hb : gb (ro v) (pe v) o (anyB F fs t) (anyB Fo fg t) t with
  | true =>
    rw [hb, if_pos rfl] at c2
    have o1 := outc_ok b5.1 w
    simp (disch := omega) only [bE, bO, bV, bK, nI_lit, nI_add, lt_T, lt_F, le_T, le_F, eq_T, eq_F, ltm_T, ltm_F, lem_T, lem_F, eqm_F, meq_F, cl_nI, nle_T, nle_F, nlt_T, nlt_F, ↓reduceIte, or_true, true_or, or_false, false_or, and_true, true_and, and_false, false_and, not_true_eq_false, not_false_eq_true, or_self, and_self, true_implies, ite_self, c1, b1, c2, b3, o1]
    rw [b4]
    unfold how
    by_cases hz : pc (clr m v) = 0
    · rw [hz]; rfl
    · rw [if_neg (by omega), if_neg (by omega), if_pos rfl, if_pos (by omega)]
  | false =>
    rw [hb, if_neg (by decide)] at c2
    have o1 := outc_ok b2.2 w
    simp (disch := omega) only [bE, bO, bV, bK, nI_lit, nI_add, lt_T, lt_F, le_T, le_F, eq_T, eq_F, ltm_T, ltm_F, lem_T, lem_F, eqm_F, meq_F, cl_nI, nle_T, nle_F, nlt_T, nlt_F, ↓reduceIte, or_true, true_or, or_false, false_or, and_true, true_and, and_false, false_and, not_true_eq_false, not_false_eq_true, or_self, and_self, true_implies, ite_self, c1, b1, c2, b3, o1]
    rw [how_F]
    by_cases hz : pc (clr m v) = 0
    · rw [hz]; rfl
    · by_cases hz1 : pc (clr m v) = 1
      · rw [hz1]; rfl
      · rw [if_neg hz, if_neg hz1, if_pos (by omega)]
theorem hb_ok (h : RG nv K Y I F Fo ro pe fe fs fg (w.1 g) (w.2.1 g) (w.1 32)) {st v t : Nat} (e : w.1 32 11 8 = nI st) (hs : st < 256) (hv : v < nv) {o' : Nat → Int32} (ho : ∀ v, v < nv → o' v = w.1 32 11 (10 + v)) (o : Int32) (ht : t < 2147483648) : f8_howBy (nI v) o (nI t) w = some (nI (how (pc (clr (gm nv ro pe o' st F Fo fs fg t) v)) (gb (ro v) (pe v) o (anyB F fs t) (anyB Fo fg t) t)), w) := by
  have hnv := h.1.1
  have c1 := mgo_ok h e hs ht ho
  have c2 := goes_ok h hv o ht
  have c3 := gm_lt (ro := ro) (pe := pe) (F := F) (Fo := Fo) (fs := fs) (fg := fg) hnv o' st t
  generalize gm nv ro pe o' st F Fo fs fg t = m at c1 c3 ⊢
  have b1 := bt_clr m c3.1 v (by omega)
  have b2 := bt_lt m c3.1 v (by omega)
  have b3 := bits_ok b2.2 w
  have b4 := pc_le (clr m v) b2.2
  unfold f8_howBy f8_howBy_29
  cases hb : gb (ro v) (pe v) o (anyB F fs t) (anyB Fo fg t) t with
  | true =>
    rw [hb, if_pos rfl] at c2
    unfold how
    rw [if_pos rfl]
    by_cases hz : 1 < pc (clr m v) + 1
    · rw [if_pos hz]
      simp (disch := omega) only [bE, bO, bV, bK, nI_lit, nI_add, lt_T, lt_F, le_T, le_F, eq_T, eq_F, ltm_T, ltm_F, lem_T, lem_F, eqm_F, meq_F, cl_nI, nle_T, nle_F, nlt_T, nlt_F, ↓reduceIte, or_true, true_or, or_false, false_or, and_true, true_and, and_false, false_and, not_true_eq_false, not_false_eq_true, or_self, and_self, true_implies, ite_self, c1, b1, c2, b3]
    · rw [if_neg hz]
      simp (disch := omega) only [bE, bO, bV, bK, nI_lit, nI_add, lt_T, lt_F, le_T, le_F, eq_T, eq_F, ltm_T, ltm_F, lem_T, lem_F, eqm_F, meq_F, cl_nI, nle_T, nle_F, nlt_T, nlt_F, ↓reduceIte, or_true, true_or, or_false, false_or, and_true, true_and, and_false, false_and, not_true_eq_false, not_false_eq_true, or_self, and_self, true_implies, ite_self, c1, b1, c2, b3]
  | false =>
    rw [hb, if_neg (by decide)] at c2
    rw [how_F]
    by_cases hz : 1 < pc (clr m v)
    · rw [if_pos hz]
      simp (disch := omega) only [bE, bO, bV, bK, nI_lit, nI_add, lt_T, lt_F, le_T, le_F, eq_T, eq_F, ltm_T, ltm_F, lem_T, lem_F, eqm_F, meq_F, cl_nI, nle_T, nle_F, nlt_T, nlt_F, ↓reduceIte, or_true, true_or, or_false, false_or, and_true, true_and, and_false, false_and, not_true_eq_false, not_false_eq_true, or_self, and_self, true_implies, ite_self, c1, b1, c2, b3]
    · rw [if_neg hz]
      simp (disch := omega) only [bE, bO, bV, bK, nI_lit, nI_add, lt_T, lt_F, le_T, le_F, eq_T, eq_F, ltm_T, ltm_F, lem_T, lem_F, eqm_F, meq_F, cl_nI, nle_T, nle_F, nlt_T, nlt_F, ↓reduceIte, or_true, true_or, or_false, false_or, and_true, true_and, and_false, false_and, not_true_eq_false, not_false_eq_true, or_self, and_self, true_implies, ite_self, c1, b1, c2, b3, Nat.add_zero]
theorem of_zero {v s : Nat} {o : Int32} (e : w.1 32 37 0 = nI s) (hs : s ≤ 10) (rec : Int32 → Int32 → Mem → Option (Int32 × Mem)) (x2 : Int32) : ∀ k i n, i + k = s → k < n → f8_offsetsOf_20 (nI v) rec n x2 o (nI 0) (nI i) w = f8_offsetsOf_70 (nI v) rec x2 o (nI 0) w := by
  intro k
  induction k with
  | zero =>
    intro i n hi hn
    obtain ⟨n, rfl⟩ : ∃ x, n = x + 1 := ⟨n - 1, by omega⟩
    obtain rfl : i = s := by omega
    rw [f8_offsetsOf_20]
    simp (disch := omega) only [bE, bO, bV, bK, nI_lit, nI_add, lt_T, lt_F, le_T, le_F, eq_T, eq_F, ltm_T, ltm_F, lem_T, lem_F, eqm_F, meq_F, cl_nI, nle_T, nle_F, nlt_T, nlt_F, ↓reduceIte, or_true, true_or, or_false, false_or, and_true, true_and, and_false, false_and, not_true_eq_false, not_false_eq_true, or_self, and_self, true_implies, ite_self, e]
  | succ k ih =>
    intro i n hi hn
    obtain ⟨n, rfl⟩ : ∃ x, n = x + 1 := ⟨n - 1, by omega⟩
    rw [f8_offsetsOf_20]
    simp (disch := omega) only [bE, bO, bV, bK, nI_lit, nI_add, lt_T, lt_F, le_T, le_F, eq_T, eq_F, ltm_T, ltm_F, lem_T, lem_F, eqm_F, meq_F, cl_nI, nle_T, nle_F, nlt_T, nlt_F, ↓reduceIte, or_true, true_or, or_false, false_or, and_true, true_and, and_false, false_and, not_true_eq_false, not_false_eq_true, or_self, and_self, true_implies, ite_self, e]
    exact ih (i + 1) n (by omega) (by omega)
theorem fit_loop {v s o : Nat} {H : Nat → Nat} (hC : ∀ t, t < 1000 → f1_outcomeWith 0 g (nI v) (nI o) (nI t) w = some (nI (H t), w)) (hM : ∀ t, t < 1000 → f8_howBy (nI v) (nI o) (nI t) w = some (nI (H t), w)) (hs : s ≤ 10) (e1 : w.1 29 4 0 = nI s) (e : w.1 32 37 0 = nI s) (he : ∀ i, i < s → ∃ t h : Nat, t < 100 ∧ h < 3 ∧ w.1 29 0 i = nI t ∧ w.1 32 38 i = nI t ∧ w.1 29 1 i = nI h ∧ w.1 32 39 i = nI h) (hH : ∀ t, H t ≤ 2) : ∀ k i n n', i + k = s → k < n → k < n' → ∃ p : Bool, f2_fits_3 g 0 (nI v) (nI o) n (nI i) w = some (if p then nI 1 else nI 0, w) ∧ ∀ rec x2, f8_offsetsOf_20 (nI v) rec n' x2 (nI o) (nI 1) (nI i) w = f8_offsetsOf_70 (nI v) rec x2 (nI o) (if p then nI 1 else nI 0) w := by
  intro k
  induction k with
  | zero =>
    intro i n n' hi hn hn'
    obtain ⟨n, rfl⟩ : ∃ x, n = x + 1 := ⟨n - 1, by omega⟩
    obtain ⟨n', rfl⟩ : ∃ x, n' = x + 1 := ⟨n' - 1, by omega⟩
    obtain rfl : i = s := by omega
    refine ⟨true, ?_, fun rec x2 => ?_⟩
    · rw [f2_fits_3]
      simp (disch := omega) only [bE, bO, bV, bK, nI_lit, nI_add, lt_T, lt_F, le_T, le_F, eq_T, eq_F, ltm_T, ltm_F, lem_T, lem_F, eqm_F, meq_F, cl_nI, nle_T, nle_F, nlt_T, nlt_F, ↓reduceIte, or_true, true_or, or_false, false_or, and_true, true_and, and_false, false_and, not_true_eq_false, not_false_eq_true, or_self, and_self, true_implies, ite_self, e1]
    · rw [f8_offsetsOf_20]
      simp (disch := omega) only [bE, bO, bV, bK, nI_lit, nI_add, lt_T, lt_F, le_T, le_F, eq_T, eq_F, ltm_T, ltm_F, lem_T, lem_F, eqm_F, meq_F, cl_nI, nle_T, nle_F, nlt_T, nlt_F, ↓reduceIte, or_true, true_or, or_false, false_or, and_true, true_and, and_false, false_and, not_true_eq_false, not_false_eq_true, or_self, and_self, true_implies, ite_self, e]
  | succ k ih =>
    intro i n n' hi hn hn'
    obtain ⟨n, rfl⟩ : ∃ x, n = x + 1 := ⟨n - 1, by omega⟩
    obtain ⟨n', rfl⟩ : ∃ x, n' = x + 1 := ⟨n' - 1, by omega⟩
    obtain ⟨t, h, t1, t2, t3, t4, t5, t6⟩ := he i (by omega)
    have c1 := hC t (by omega)
    have c2 := hM t (by omega)
    have hh := hH t
    by_cases hz : H t = h
    · obtain ⟨p, p1, p2⟩ := ih (i + 1) n n' (by omega) (by omega) (by omega)
      refine ⟨p, ?_, fun rec x2 => ?_⟩
      · rw [f2_fits_3]
        simp (disch := omega) only [bE, bO, bV, bK, nI_lit, nI_add, lt_T, lt_F, le_T, le_F, eq_T, eq_F, ltm_T, ltm_F, lem_T, lem_F, eqm_F, meq_F, cl_nI, nle_T, nle_F, nlt_T, nlt_F, ↓reduceIte, or_true, true_or, or_false, false_or, and_true, true_and, and_false, false_and, not_true_eq_false, not_false_eq_true, or_self, and_self, true_implies, ite_self, e1, t3, c1, t5]
        exact p1
      · rw [f8_offsetsOf_20]
        simp (disch := omega) only [bE, bO, bV, bK, nI_lit, nI_add, lt_T, lt_F, le_T, le_F, eq_T, eq_F, ltm_T, ltm_F, lem_T, lem_F, eqm_F, meq_F, cl_nI, nle_T, nle_F, nlt_T, nlt_F, ↓reduceIte, or_true, true_or, or_false, false_or, and_true, true_and, and_false, false_and, not_true_eq_false, not_false_eq_true, or_self, and_self, true_implies, ite_self, e, t4, c2, t6]
        exact p2 rec x2
    · refine ⟨false, ?_, fun rec x2 => ?_⟩
      · rw [f2_fits_3]
        simp (disch := omega) only [bE, bO, bV, bK, nI_lit, nI_add, lt_T, lt_F, le_T, le_F, eq_T, eq_F, ltm_T, ltm_F, lem_T, lem_F, eqm_F, meq_F, cl_nI, nle_T, nle_F, nlt_T, nlt_F, ↓reduceIte, or_true, true_or, or_false, false_or, and_true, true_and, and_false, false_and, not_true_eq_false, not_false_eq_true, or_self, and_self, true_implies, ite_self, e1, t3, c1, t5]
        rfl
      · have z := of_zero (v := v) (o := nI o) e hs rec x2 k (i + 1) n' (by omega) (by omega)
        rw [f8_offsetsOf_20]
        simp (disch := omega) only [bE, bO, bV, bK, nI_lit, nI_add, lt_T, lt_F, le_T, le_F, eq_T, eq_F, ltm_T, ltm_F, lem_T, lem_F, eqm_F, meq_F, cl_nI, nle_T, nle_F, nlt_T, nlt_F, ↓reduceIte, or_true, true_or, or_false, false_or, and_true, true_and, and_false, false_and, not_true_eq_false, not_false_eq_true, or_self, and_self, true_implies, ite_self, e, t4, c2, t6]
        exact z
theorem set_loop {v s p : Nat} {H : Nat → Nat → Nat} (hv : v < 8) (hp : p ≤ 9) (e5 : w.1 32 5 v = nI p) (ep : f6_periodOf g (nI v) w = some (nI p, w)) (hC : ∀ o t, o < 9 → t < 1000 → f1_outcomeWith 0 g (nI v) (nI o) (nI t) w = some (nI (H o t), w)) (hM : ∀ o t, o < 9 → t < 1000 → f8_howBy (nI v) (nI o) (nI t) w = some (nI (H o t), w)) (hs : s ≤ 10) (e1 : w.1 29 4 0 = nI s) (e : w.1 32 37 0 = nI s) (he : ∀ i, i < s → ∃ t h : Nat, t < 100 ∧ h < 3 ∧ w.1 29 0 i = nI t ∧ w.1 32 38 i = nI t ∧ w.1 29 1 i = nI h ∧ w.1 32 39 i = nI h) (hH : ∀ o t, H o t ≤ 2) : ∀ k o n n' S, o + k = p → k < n → k < n' → ∃ S', f2_fitting_6 g 0 (nI v) n S (nI o) w = some (S', w) ∧ f8_offsetsOf_4 (nI v) n' S (nI o) w = some (S', w) := by
  intro k
  induction k with
  | zero =>
    intro o n n' S ho hn hn'
    obtain ⟨n, rfl⟩ : ∃ x, n = x + 1 := ⟨n - 1, by omega⟩
    obtain ⟨n', rfl⟩ : ∃ x, n' = x + 1 := ⟨n' - 1, by omega⟩
    obtain rfl : o = p := by omega
    refine ⟨S, ?_, ?_⟩
    · rw [f2_fitting_6]
      simp (disch := omega) only [bE, bO, bV, bK, nI_lit, nI_add, lt_T, lt_F, le_T, le_F, eq_T, eq_F, ltm_T, ltm_F, lem_T, lem_F, eqm_F, meq_F, cl_nI, nle_T, nle_F, nlt_T, nlt_F, ↓reduceIte, or_true, true_or, or_false, false_or, and_true, true_and, and_false, false_and, not_true_eq_false, not_false_eq_true, or_self, and_self, true_implies, ite_self, ep]
    · rw [f8_offsetsOf_4]
      simp (disch := omega) only [bE, bO, bV, bK, nI_lit, nI_add, lt_T, lt_F, le_T, le_F, eq_T, eq_F, ltm_T, ltm_F, lem_T, lem_F, eqm_F, meq_F, cl_nI, nle_T, nle_F, nlt_T, nlt_F, ↓reduceIte, or_true, true_or, or_false, false_or, and_true, true_and, and_false, false_and, not_true_eq_false, not_false_eq_true, or_self, and_self, true_implies, ite_self, e5]
  | succ k ih =>
    intro o n n' S ho hn hn'
    obtain ⟨n, rfl⟩ : ∃ x, n = x + 1 := ⟨n - 1, by omega⟩
    obtain ⟨n', rfl⟩ : ∃ x, n' = x + 1 := ⟨n' - 1, by omega⟩
    obtain ⟨b, b1, b2⟩ := fit_loop (H := H o) (hC o · (by omega)) (hM o · (by omega)) hs e1 e he (hH o) s 0 100000 100000 (by omega) (by omega) (by omega)
    cases b with
    | true =>
      rw [if_pos rfl] at b1
      obtain ⟨S', s1, s2⟩ := ih (o + 1) n n' (S ||| jshl (nI 1) (nI o)) (by omega) (by omega) (by omega)
      refine ⟨S', ?_, ?_⟩
      · rw [f2_fitting_6]
        unfold f2_fits
        simp (disch := omega) only [bE, bO, bV, bK, nI_lit, nI_add, lt_T, lt_F, le_T, le_F, eq_T, eq_F, ltm_T, ltm_F, lem_T, lem_F, eqm_F, meq_F, cl_nI, nle_T, nle_F, nlt_T, nlt_F, ↓reduceIte, or_true, true_or, or_false, false_or, and_true, true_and, and_false, false_and, not_true_eq_false, not_false_eq_true, or_self, and_self, true_implies, ite_self, ep, b1]
        exact s1
      · rw [f8_offsetsOf_4]
        simp (disch := omega) only [bE, bO, bV, bK, nI_lit, nI_add, lt_T, lt_F, le_T, le_F, eq_T, eq_F, ltm_T, ltm_F, lem_T, lem_F, eqm_F, meq_F, cl_nI, nle_T, nle_F, nlt_T, nlt_F, ↓reduceIte, or_true, true_or, or_false, false_or, and_true, true_and, and_false, false_and, not_true_eq_false, not_false_eq_true, or_self, and_self, true_implies, ite_self, e5, b2]
        unfold f8_offsetsOf_70
        simp (disch := omega) only [bE, bO, bV, bK, nI_lit, nI_add, lt_T, lt_F, le_T, le_F, eq_T, eq_F, ltm_T, ltm_F, lem_T, lem_F, eqm_F, meq_F, cl_nI, nle_T, nle_F, nlt_T, nlt_F, ↓reduceIte, or_true, true_or, or_false, false_or, and_true, true_and, and_false, false_and, not_true_eq_false, not_false_eq_true, or_self, and_self, true_implies, ite_self, if_true]
        exact s2
    | false =>
      rw [if_neg (by decide)] at b1
      obtain ⟨S', s1, s2⟩ := ih (o + 1) n n' S (by omega) (by omega) (by omega)
      refine ⟨S', ?_, ?_⟩
      · rw [f2_fitting_6]
        unfold f2_fits
        simp (disch := omega) only [bE, bO, bV, bK, nI_lit, nI_add, lt_T, lt_F, le_T, le_F, eq_T, eq_F, ltm_T, ltm_F, lem_T, lem_F, eqm_F, meq_F, cl_nI, nle_T, nle_F, nlt_T, nlt_F, ↓reduceIte, or_true, true_or, or_false, false_or, and_true, true_and, and_false, false_and, not_true_eq_false, not_false_eq_true, or_self, and_self, true_implies, ite_self, ep, b1]
        exact s1
      · rw [f8_offsetsOf_4]
        simp (disch := omega) only [bE, bO, bV, bK, nI_lit, nI_add, lt_T, lt_F, le_T, le_F, eq_T, eq_F, ltm_T, ltm_F, lem_T, lem_F, eqm_F, meq_F, cl_nI, nle_T, nle_F, nlt_T, nlt_F, ↓reduceIte, or_true, true_or, or_false, false_or, and_true, true_and, and_false, false_and, not_true_eq_false, not_false_eq_true, or_self, and_self, true_implies, ite_self, e5, b2]
        unfold f8_offsetsOf_70
        simp (disch := omega) only [bE, bO, bV, bK, nI_lit, nI_add, lt_T, lt_F, le_T, le_F, eq_T, eq_F, ltm_T, ltm_F, lem_T, lem_F, eqm_F, meq_F, cl_nI, nle_T, nle_F, nlt_T, nlt_F, ↓reduceIte, or_true, true_or, or_false, false_or, and_true, true_and, and_false, false_and, not_true_eq_false, not_false_eq_true, or_self, and_self, true_implies, ite_self, Bool.false_eq_true, if_false, show S ||| nI 0 = S from Int32.or_zero]
        exact s2
theorem out_loop {v p t : Nat} {S a2 : Int32} {H : Nat → Nat} (h1 : g = 24 ∨ g = 25) (h2 : w.2.2 26 4 = (g, 0)) (hv : v < 8) (hp : p ≤ 9) (e5 : w.1 32 5 v = nI p) (ep : f6_periodOf g (nI v) w = some (nI p, w)) (hC : ∀ o, o < 9 → f1_outcomeWith 0 g (nI v) (nI o) (nI t) w = some (nI (H o), w)) (hM : ∀ o, o < 9 → f8_howBy (nI v) (nI o) (nI t) w = some (nI (H o), w)) (hH : ∀ o, H o ≤ 2) (rec rec' : _) : ∀ k o n n' m, o + k = p → k < n → k < n' → m < 256 → ∃ m', m' < 256 ∧ f7_dayToLookAt_14 (nI v) S rec n (nI t) (nI m) (nI o) w = f7_dayToLookAt_64 (nI v) S rec (nI t) (nI m') w ∧ f8_went_52 (nI v) a2 rec' n' S (nI t) (nI m) (nI o) w = f8_went_98 (nI v) a2 rec' S (nI t) (nI m') w := by
  intro k
  induction k with
  | zero =>
    intro o n n' m ho hn hn' hm
    obtain ⟨n, rfl⟩ : ∃ x, n = x + 1 := ⟨n - 1, by omega⟩
    obtain ⟨n', rfl⟩ : ∃ x, n' = x + 1 := ⟨n' - 1, by omega⟩
    obtain rfl : o = p := by omega
    refine ⟨m, hm, ?_, ?_⟩
    · rw [f7_dayToLookAt_14]
      simp (disch := omega) only [bE, bO, bV, bK, nI_lit, nI_add, lt_T, lt_F, le_T, le_F, eq_T, eq_F, ltm_T, ltm_F, lem_T, lem_F, eqm_F, meq_F, cl_nI, nle_T, nle_F, nlt_T, nlt_F, ↓reduceIte, or_true, true_or, or_false, false_or, and_true, true_and, and_false, false_and, not_true_eq_false, not_false_eq_true, or_self, and_self, true_implies, ite_self, rk_g h1 h2, ep]
    · rw [f8_went_52]
      simp (disch := omega) only [bE, bO, bV, bK, nI_lit, nI_add, lt_T, lt_F, le_T, le_F, eq_T, eq_F, ltm_T, ltm_F, lem_T, lem_F, eqm_F, meq_F, cl_nI, nle_T, nle_F, nlt_T, nlt_F, ↓reduceIte, or_true, true_or, or_false, false_or, and_true, true_and, and_false, false_and, not_true_eq_false, not_false_eq_true, or_self, and_self, true_implies, ite_self, e5]
  | succ k ih =>
    intro o n n' m ho hn hn' hm
    obtain ⟨n, rfl⟩ : ∃ x, n = x + 1 := ⟨n - 1, by omega⟩
    obtain ⟨n', rfl⟩ : ∃ x, n' = x + 1 := ⟨n' - 1, by omega⟩
    have c1 := hC o (by omega)
    have c2 := hM o (by omega)
    have hh := hH o
    have bo := bt_or m hm (H o) (by omega)
    have bl := bt_lt m hm (H o) (by omega)
    rcases and1 (jshr S (nI o)) with ha | ha
    · obtain ⟨m', m1, m2, m3⟩ := ih (o + 1) n n' m (by omega) (by omega) (by omega) hm
      refine ⟨m', m1, ?_, ?_⟩
      · rw [f7_dayToLookAt_14]
        simp (disch := omega) only [bE, bO, bV, bK, nI_lit, nI_add, lt_T, lt_F, le_T, le_F, eq_T, eq_F, ltm_T, ltm_F, lem_T, lem_F, eqm_F, meq_F, cl_nI, nle_T, nle_F, nlt_T, nlt_F, ↓reduceIte, or_true, true_or, or_false, false_or, and_true, true_and, and_false, false_and, not_true_eq_false, not_false_eq_true, or_self, and_self, true_implies, ite_self, rk_g h1 h2, ep, ha]
        exact m2
      · rw [f8_went_52]
        unfold f8_has
        simp (disch := omega) only [bE, bO, bV, bK, nI_lit, nI_add, lt_T, lt_F, le_T, le_F, eq_T, eq_F, ltm_T, ltm_F, lem_T, lem_F, eqm_F, meq_F, cl_nI, nle_T, nle_F, nlt_T, nlt_F, ↓reduceIte, or_true, true_or, or_false, false_or, and_true, true_and, and_false, false_and, not_true_eq_false, not_false_eq_true, or_self, and_self, true_implies, ite_self, e5, ha, show nI m ||| nI 0 = nI m from Int32.or_zero]
        exact m3
    · obtain ⟨m', m1, m2, m3⟩ := ih (o + 1) n n' (ins m (H o)) (by omega) (by omega) (by omega) bl.1
      refine ⟨m', m1, ?_, ?_⟩
      · rw [f7_dayToLookAt_14]
        simp (disch := omega) only [bE, bO, bV, bK, nI_lit, nI_add, lt_T, lt_F, le_T, le_F, eq_T, eq_F, ltm_T, ltm_F, lem_T, lem_F, eqm_F, meq_F, cl_nI, nle_T, nle_F, nlt_T, nlt_F, ↓reduceIte, or_true, true_or, or_false, false_or, and_true, true_and, and_false, false_and, not_true_eq_false, not_false_eq_true, or_self, and_self, true_implies, ite_self, rk_g h1 h2, ep, ha, c1, bo]
        exact m2
      · rw [f8_went_52]
        unfold f8_has
        simp (disch := omega) only [bE, bO, bV, bK, nI_lit, nI_add, lt_T, lt_F, le_T, le_F, eq_T, eq_F, ltm_T, ltm_F, lem_T, lem_F, eqm_F, meq_F, cl_nI, nle_T, nle_F, nlt_T, nlt_F, ↓reduceIte, or_true, true_or, or_false, false_or, and_true, true_and, and_false, false_and, not_true_eq_false, not_false_eq_true, or_self, and_self, true_implies, ite_self, e5, ha, c2, bo]
        exact m3
theorem look_loop {v p : Nat} {S a2 : Int32} {H : Nat → Nat → Nat} (h1 : g = 24 ∨ g = 25) (h2 : w.2.2 26 4 = (g, 0)) (hv : v < 8) (hp : p ≤ 9) (e5 : w.1 32 5 v = nI p) (ep : f6_periodOf g (nI v) w = some (nI p, w)) (hC : ∀ o t, o < 9 → t < 1000 → f1_outcomeWith 0 g (nI v) (nI o) (nI t) w = some (nI (H o t), w)) (hM : ∀ o t, o < 9 → t < 1000 → f8_howBy (nI v) (nI o) (nI t) w = some (nI (H o t), w)) (hH : ∀ o t, H o t ≤ 2) : ∀ k t n n', t + k = 100 → k < n → k < n' → ∃ r, f7_dayToLookAt_2 (nI v) S n (nI t) w = some (r, w) ∧ f8_went_39 (nI v) a2 n' S (nI t) w = some (r, w) := by
  intro k
  induction k with
  | zero =>
    intro t n n' ht hn hn'
    obtain ⟨n, rfl⟩ : ∃ x, n = x + 1 := ⟨n - 1, by omega⟩
    obtain ⟨n', rfl⟩ : ∃ x, n' = x + 1 := ⟨n' - 1, by omega⟩
    obtain rfl : t = 100 := by omega
    refine ⟨-1, ?_, ?_⟩
    · rw [f7_dayToLookAt_2]
      simp (disch := omega) only [bE, bO, bV, bK, nI_lit, nI_add, lt_T, lt_F, le_T, le_F, eq_T, eq_F, ltm_T, ltm_F, lem_T, lem_F, eqm_F, meq_F, cl_nI, nle_T, nle_F, nlt_T, nlt_F, ↓reduceIte, or_true, true_or, or_false, false_or, and_true, true_and, and_false, false_and, not_true_eq_false, not_false_eq_true, or_self, and_self, true_implies, ite_self]
    · rw [f8_went_39]
      simp (disch := omega) only [bE, bO, bV, bK, nI_lit, nI_add, lt_T, lt_F, le_T, le_F, eq_T, eq_F, ltm_T, ltm_F, lem_T, lem_F, eqm_F, meq_F, cl_nI, nle_T, nle_F, nlt_T, nlt_F, ↓reduceIte, or_true, true_or, or_false, false_or, and_true, true_and, and_false, false_and, not_true_eq_false, not_false_eq_true, or_self, and_self, true_implies, ite_self]
  | succ k ih =>
    intro t n n' ht hn hn'
    obtain ⟨n, rfl⟩ : ∃ x, n = x + 1 := ⟨n - 1, by omega⟩
    obtain ⟨n', rfl⟩ : ∃ x, n' = x + 1 := ⟨n' - 1, by omega⟩
    obtain ⟨m, m1, m2, m3⟩ := out_loop (S := S) (a2 := a2) (t := t) (H := fun o => H o t) h1 h2 hv hp e5 ep (fun o ho => hC o t ho (by omega)) (fun o ho => hM o t ho (by omega)) (fun o => hH o t) (f7_dayToLookAt_2 (nI v) S n) (f8_went_39 (nI v) a2 n') p 0 100000 100000 0 (by omega) (by omega) (by omega) (by omega)
    obtain ⟨r, r1, r2⟩ := ih (t + 1) n n' (by omega) (by omega) (by omega)
    have x1 := bitCount_ok m1 w
    have x2 := bits_ok m1 w
    have x3 := pc_le m m1
    by_cases hz : pc m ≤ 1
    · refine ⟨r, ?_, ?_⟩
      · rw [f7_dayToLookAt_2]
        simp (disch := omega) only [bE, bO, bV, bK, nI_lit, nI_add, lt_T, lt_F, le_T, le_F, eq_T, eq_F, ltm_T, ltm_F, lem_T, lem_F, eqm_F, meq_F, cl_nI, nle_T, nle_F, nlt_T, nlt_F, ↓reduceIte, or_true, true_or, or_false, false_or, and_true, true_and, and_false, false_and, not_true_eq_false, not_false_eq_true, or_self, and_self, true_implies, ite_self, m2]
        unfold f7_dayToLookAt_64
        simp (disch := omega) only [bE, bO, bV, bK, nI_lit, nI_add, lt_T, lt_F, le_T, le_F, eq_T, eq_F, ltm_T, ltm_F, lem_T, lem_F, eqm_F, meq_F, cl_nI, nle_T, nle_F, nlt_T, nlt_F, ↓reduceIte, or_true, true_or, or_false, false_or, and_true, true_and, and_false, false_and, not_true_eq_false, not_false_eq_true, or_self, and_self, true_implies, ite_self, x1]
        exact r1
      · rw [f8_went_39]
        simp (disch := omega) only [bE, bO, bV, bK, nI_lit, nI_add, lt_T, lt_F, le_T, le_F, eq_T, eq_F, ltm_T, ltm_F, lem_T, lem_F, eqm_F, meq_F, cl_nI, nle_T, nle_F, nlt_T, nlt_F, ↓reduceIte, or_true, true_or, or_false, false_or, and_true, true_and, and_false, false_and, not_true_eq_false, not_false_eq_true, or_self, and_self, true_implies, ite_self, m3]
        unfold f8_went_98
        simp (disch := omega) only [bE, bO, bV, bK, nI_lit, nI_add, lt_T, lt_F, le_T, le_F, eq_T, eq_F, ltm_T, ltm_F, lem_T, lem_F, eqm_F, meq_F, cl_nI, nle_T, nle_F, nlt_T, nlt_F, ↓reduceIte, or_true, true_or, or_false, false_or, and_true, true_and, and_false, false_and, not_true_eq_false, not_false_eq_true, or_self, and_self, true_implies, ite_self, x2]
        exact r2
    · refine ⟨nI t, ?_, ?_⟩
      · rw [f7_dayToLookAt_2]
        simp (disch := omega) only [bE, bO, bV, bK, nI_lit, nI_add, lt_T, lt_F, le_T, le_F, eq_T, eq_F, ltm_T, ltm_F, lem_T, lem_F, eqm_F, meq_F, cl_nI, nle_T, nle_F, nlt_T, nlt_F, ↓reduceIte, or_true, true_or, or_false, false_or, and_true, true_and, and_false, false_and, not_true_eq_false, not_false_eq_true, or_self, and_self, true_implies, ite_self, m2]
        unfold f7_dayToLookAt_64
        simp (disch := omega) only [bE, bO, bV, bK, nI_lit, nI_add, lt_T, lt_F, le_T, le_F, eq_T, eq_F, ltm_T, ltm_F, lem_T, lem_F, eqm_F, meq_F, cl_nI, nle_T, nle_F, nlt_T, nlt_F, ↓reduceIte, or_true, true_or, or_false, false_or, and_true, true_and, and_false, false_and, not_true_eq_false, not_false_eq_true, or_self, and_self, true_implies, ite_self, x1]
      · rw [f8_went_39]
        simp (disch := omega) only [bE, bO, bV, bK, nI_lit, nI_add, lt_T, lt_F, le_T, le_F, eq_T, eq_F, ltm_T, ltm_F, lem_T, lem_F, eqm_F, meq_F, cl_nI, nle_T, nle_F, nlt_T, nlt_F, ↓reduceIte, or_true, true_or, or_false, false_or, and_true, true_and, and_false, false_and, not_true_eq_false, not_false_eq_true, or_self, and_self, true_implies, ite_self, m3]
        unfold f8_went_98
        simp (disch := omega) only [bE, bO, bV, bK, nI_lit, nI_add, lt_T, lt_F, le_T, le_F, eq_T, eq_F, ltm_T, ltm_F, lem_T, lem_F, eqm_F, meq_F, cl_nI, nle_T, nle_F, nlt_T, nlt_F, ↓reduceIte, or_true, true_or, or_false, false_or, and_true, true_and, and_false, false_and, not_true_eq_false, not_false_eq_true, or_self, and_self, true_implies, ite_self, x2]
end Rock
theorem q_went {n : Nat} {w : Mem} (hn : n < 100) (h : Rel n w) (a b : Int32) : Same n w (f7_went a b) (f8_went a b) := by
  obtain ⟨⟨g, nv, K, Y, I, F, Fo, ro, pe, fe, fs, fg, h1, h2, h3, h4, h5, h6, h7⟩, hT, hF, hN⟩ := id h
  have hnv := h3.1.1
  have a4 := h3.2.2.2.2.2.1
  rcases ix3 a nv (by omega) with ha | ha | ⟨v, hv, rfl⟩
  · refine ⟨_, w, w, ?_, by unfold f8_went; rw [vil_F a4.2 hnv (Or.inl ha)]; rfl, h.next (by omega)⟩
    unfold f7_went
    rw [rk_g h1 h2.1]; simp only [bK]; rw [has_F a4.1 hnv (Or.inl ha)]; rfl
  · refine ⟨_, w, w, ?_, by unfold f8_went; rw [vil_F a4.2 hnv (Or.inr ha)]; rfl, h.next (by omega)⟩
    unfold f7_went
    rw [rk_g h1 h2.1]; simp only [bK]; rw [has_F a4.1 hnv (Or.inr ha)]; rfl
  · have e1 := has_T a4.1 hnv hv
    have e2 := vil_T a4.2 hnv hv
    rcases ix3 b 2 (by omega) with hb | hb | ⟨u, hu, rfl⟩
    · refine ⟨-1000000002, w, w, ?_, ?_, h.next (by omega)⟩
      · unfold f7_went
        rw [rk_g h1 h2.1]; simp only [bK]; rw [e1]; simp only [bO]
        rw [if_neg (by decide), if_pos (show b < 0 from hb)]
      · unfold f8_went
        rw [e2]; simp only [bO]
        rw [if_neg (by decide), in_neg w hb]; rfl
    · refine ⟨-1000000002, w, w, ?_, ?_, h.next (by omega)⟩
      · unfold f7_went
        rw [rk_g h1 h2.1]; simp only [bK]; rw [e1]; simp only [bO]
        rw [if_neg (by decide), if_neg (show ¬ b < 0 from big_nlt (by omega) hb), if_neg (show ¬ b ≤ 1 from big_nle (j := 1) (by omega) hb (by omega))]
      · unfold f8_went
        rw [e2]; simp only [bO]
        rw [if_neg (by decide), in_big (m := 1) (b := 1) w rfl (by omega) hb]; rfl
    · obtain ⟨dy, wt, fa, em, sh, st, -, -, -, -, -, hst, -, -, -, -, -, b6, -, b12, -, -⟩ := h4
      obtain ⟨s, bb, s1, s2, s3, s4, s5, s6, s7, s8⟩ := hN
      obtain ⟨⟨y1, y2, y3, y4⟩, -, ⟨y5, y6⟩, -⟩ := h3.2.2.2.2.2.2.2.2.1 v hv
      have ep := per_ok h3 hv
      have hC : ∀ o t, o < 9 → t < 1000 → f1_outcomeWith 0 g (nI v) (nI o) (nI t) w = some (nI ((fun o t => how (pc (clr (gm nv ro pe (w.1 0 0) st F Fo fs fg t) v)) (gb (ro v) (pe v) (nI o) (anyB F fs t) (anyB Fo fg t) t)) o t), w) := fun o t ho ht => oc_ok h3 b6.1 hst hv (nI o) (by omega)
      have hM : ∀ o t, o < 9 → t < 1000 → f8_howBy (nI v) (nI o) (nI t) w = some (nI ((fun o t => how (pc (clr (gm nv ro pe (w.1 0 0) st F Fo fs fg t) v)) (gb (ro v) (pe v) (nI o) (anyB F fs t) (anyB Fo fg t) t)) o t), w) := fun o t ho ht => hb_ok h3 b6.2 hst hv b12 (nI o) (by omega)
      have hH : ∀ o t, (fun o t => how (pc (clr (gm nv ro pe (w.1 0 0) st F Fo fs fg t) v)) (gb (ro v) (pe v) (nI o) (anyB F fs t) (anyB Fo fg t) t)) o t ≤ 2 := fun o t => how_le _ _
      generalize (fun o t => how (pc (clr (gm nv ro pe (w.1 0 0) st F Fo fs fg t) v)) (gb (ro v) (pe v) (nI o) (anyB F fs t) (anyB Fo fg t) t)) = H at hC hM hH
      obtain ⟨S, z1, z2⟩ := set_loop (by omega) y3 y6 ep hC hM s1 s3 s4 s7 hH (pe v) 0 100000 100000 0 (by omega) (by omega) (by omega)
      rcases (show u = 0 ∨ u = 1 by omega) with rfl | rfl
      · refine ⟨S, w, w, ?_, ?_, h.next (by omega)⟩
        · unfold f7_went f2_fitting
          rw [rk_g h1 h2.1]; simp only [bK]; rw [e1]
          simp (disch := omega) only [bE, bO, bV, bK, nI_lit, nI_add, lt_T, lt_F, le_T, le_F, eq_T, eq_F, ltm_T, ltm_F, lem_T, lem_F, eqm_F, meq_F, cl_nI, nle_T, nle_F, nlt_T, nlt_F, ↓reduceIte, or_true, true_or, or_false, false_or, and_true, true_and, and_false, false_and, not_true_eq_false, not_false_eq_true, or_self, and_self, true_implies, ite_self, rk_g h1 h2.1]
          rw [show f2_fitting_6 g 0 (nI v) 100000 (nI 0) (nI 0) w = some (S, w) from z1, bO]
        · unfold f8_went f8_offsetsOf
          rw [e2]
          simp only [bO]
          rw [if_neg (by decide), in0_T (m := 1) (b := 1) w rfl (by omega) (by omega)]
          simp (disch := omega) only [bE, bO, bV, bK, nI_lit, nI_add, lt_T, lt_F, le_T, le_F, eq_T, eq_F, ltm_T, ltm_F, lem_T, lem_F, eqm_F, meq_F, cl_nI, nle_T, nle_F, nlt_T, nlt_F, ↓reduceIte, or_true, true_or, or_false, false_or, and_true, true_and, and_false, false_and, not_true_eq_false, not_false_eq_true, or_self, and_self, true_implies, ite_self]
          rw [show f8_offsetsOf_4 (nI v) 100000 (nI 0) (nI 0) w = some (S, w) from z2, bO]
      · obtain ⟨r, r1, r2⟩ := look_loop (S := S) (a2 := nI 1) h1 h2.1 (by omega) y3 y6 ep hC hM hH 100 0 100000 100000 (by omega) (by omega) (by omega)
        refine ⟨r, w, w, ?_, ?_, h.next (by omega)⟩
        · unfold f7_went f2_fitting f7_dayToLookAt
          rw [rk_g h1 h2.1]; simp only [bK]; rw [e1]
          simp (disch := omega) only [bE, bO, bV, bK, nI_lit, nI_add, lt_T, lt_F, le_T, le_F, eq_T, eq_F, ltm_T, ltm_F, lem_T, lem_F, eqm_F, meq_F, cl_nI, nle_T, nle_F, nlt_T, nlt_F, ↓reduceIte, or_true, true_or, or_false, false_or, and_true, true_and, and_false, false_and, not_true_eq_false, not_false_eq_true, or_self, and_self, true_implies, ite_self, rk_g h1 h2.1]
          rw [show f2_fitting_6 g 0 (nI v) 100000 (nI 0) (nI 0) w = some (S, w) from z1]
          simp only [bO]
          rw [show f7_dayToLookAt_2 (nI v) S 100000 (nI 0) w = some (r, w) from r1, bO]
        · unfold f8_went f8_offsetsOf
          rw [e2]
          simp only [bO]
          rw [if_neg (by decide), in0_T (m := 1) (b := 1) w rfl (by omega) (by omega)]
          simp (disch := omega) only [bE, bO, bV, bK, nI_lit, nI_add, lt_T, lt_F, le_T, le_F, eq_T, eq_F, ltm_T, ltm_F, lem_T, lem_F, eqm_F, meq_F, cl_nI, nle_T, nle_F, nlt_T, nlt_F, ↓reduceIte, or_true, true_or, or_false, false_or, and_true, true_and, and_false, false_and, not_true_eq_false, not_false_eq_true, or_self, and_self, true_implies, ite_self]
          rw [show f8_offsetsOf_4 (nI v) 100000 (nI 0) (nI 0) w = some (S, w) from z2, bO]
          exact r2
