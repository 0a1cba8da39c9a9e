/-! the least feet: the reference's lower bounds -/
def wsb (Y v s : Nat) : Bool := (decide (0 < Y) && decide (s % 9 = v)) || ((decide (1 < Y) && decide (s / 9 % 9 = v)) || ((decide (2 < Y) && decide (s / 81 % 9 = v)) || (decide (3 < Y) && decide (s / 729 = v))))
def myg (ro : Nat → Nat) (fog : Nat → Bool) (v d : Nat) : Bool := decide (ro v = 0) || !fog d
def lwf (nv Y : Nat) (ro : Nat → Nat) (fog : Nat → Bool) : Nat → Nat → Nat → Nat
  | 0, _, _ => 0
  | r + 1, d, s => mnv (fun v => !wsb Y v s && myg ro fog v d) (fun v => 2 * ro v + lwf nv Y ro fog r (d + 1) (s % 729 * 9 + v)) nv
def PF (nv Y Fo dy : Nat) (ro fg : Nat → Nat) (w : Mem) : Prop := (nv ≤ 8 ∧ Y ≤ 30 ∧ Fo ≤ 8 ∧ dy < 100000) ∧ w.1 32 3 0 = nI nv ∧ w.1 32 1 0 = nI Y ∧ w.1 32 11 0 = nI dy ∧ w.1 32 9 0 = nI Fo ∧ (∀ v, v < nv → ro v ≤ 9 ∧ w.1 32 4 v = nI (ro v)) ∧ (∀ k, k < Fo → fg k < 1000 ∧ w.1 32 10 k = nI (fg k))
theorem lwf_le {nv Y : Nat} {ro : Nat → Nat} {fog : Nat → Bool} (r d s : Nat) : lwf nv Y ro fog r d s ≤ 1000000 := by
  cases r with
  | zero => exact Nat.zero_le _
  | succ r => exact mnv_le _ _ _
section Low
variable {nv Y Fo dy : Nat} {ro fg : Nat → Nat} {w w' : Mem}
theorem PF.k (h : PF nv Y Fo dy ro fg w) (e : ∀ k, k < 12 → w'.1 32 k = w.1 32 k) : PF nv Y Fo dy ro fg w' := by
  unfold PF at h ⊢
  rw [e 3 (by omega), e 1 (by omega), e 11 (by omega), e 9 (by omega), e 4 (by omega), e 10 (by omega)]
  exact h
theorem may_ok (h : PF nv Y Fo dy ro fg w) {v d : Nat} (hv : v < nv) (hd : d < 1000) : f8_mayGo (nI v) (nI (dy + d)) w = some (if myg ro (fun j => anyB Fo fg (dy + j)) v d then nI 1 else nI 0, w) := by
  obtain ⟨⟨h1, h2, h3, h4⟩, h5, h6, h7, h8, h9, h10⟩ := h
  obtain ⟨y1, y2⟩ := h9 v hv
  have m2 : f8_isFog (nI (dy + d)) w = some (if anyB Fo fg (dy + d) then nI 1 else nI 0, w) := fog_loop h8 h3 h10 (by omega) Fo 0 100000 (by omega) (by omega)
  unfold f8_mayGo myg
  by_cases hz : ro v = 0
  · rw [decide_eq_true hz, Bool.true_or, if_pos rfl]
    simp (disch := omega) only [bE, bO, bV, bK, nI_lit, nI_add, lt_T, lt_F, le_T, le_F, eq_T, eq_F, ltm_T, ltm_F, lem_T, lem_F, eqm_F, meq_F, cl_nI, nle_T, nle_F, nlt_T, nlt_F, ↓reduceIte, or_true, true_or, or_false, false_or, and_true, true_and, and_false, false_and, not_true_eq_false, not_false_eq_true, or_self, and_self, true_implies, ite_self, y2, hz]
  · rw [decide_eq_false hz, Bool.false_or]
    cases hb : anyB Fo fg (dy + d) with
    | true =>
      rw [hb, if_pos rfl] at m2
      simp (disch := omega) only [bE, bO, bV, bK, nI_lit, nI_add, lt_T, lt_F, le_T, le_F, eq_T, eq_F, ltm_T, ltm_F, lem_T, lem_F, eqm_F, meq_F, cl_nI, nle_T, nle_F, nlt_T, nlt_F, ↓reduceIte, or_true, true_or, or_false, false_or, and_true, true_and, and_false, false_and, not_true_eq_false, not_false_eq_true, or_self, and_self, true_implies, ite_self, y2, m2, hb, Bool.not_true, Bool.false_eq_true]
    | false =>
      rw [hb, if_neg (by decide)] at m2
      simp (disch := omega) only [bE, bO, bV, bK, nI_lit, nI_add, lt_T, lt_F, le_T, le_F, eq_T, eq_F, ltm_T, ltm_F, lem_T, lem_F, eqm_F, meq_F, cl_nI, nle_T, nle_F, nlt_T, nlt_F, ↓reduceIte, or_true, true_or, or_false, false_or, and_true, true_and, and_false, false_and, not_true_eq_false, not_false_eq_true, or_self, and_self, true_implies, ite_self, y2, m2, hb, Bool.not_false]
theorem l118 (h : PF nv Y Fo dy ro fg w) {a x2 x4 : Int32} {r32 : Int32 → Mem → Option Mem} {r38 : Int32 → Int32 → Mem → Option Mem} {r53 : Int32 → Int32 → Int32 → Int32 → Mem → Option Mem} {s v : Nat} (hs : s < 6561) (hv : v < nv) : f8_findLow_118 a r32 r38 r53 x2 (nI s) x4 (nI v) w = f8_findLow_141 a r32 r38 r53 x2 (nI s) x4 (nI v) (if decide (3 < Y) && decide (s / 729 = v) then nI 1 else nI 0) w := by
  obtain ⟨⟨h1, h2, h3, h4⟩, h5, h6, -⟩ := h
  have d1 : nI s / 729 = nI (s / 729) := pk_div (d := 729) (by omega) (by omega) (by omega)
  unfold f8_findLow_118
  rw [h6, d1]
  by_cases c1 : 3 < Y
  · by_cases c2 : s / 729 = v
    · rw [decide_eq_true c1, decide_eq_true c2]
      simp (disch := omega) only [bE, bO, bV, bK, nI_lit, nI_add, lt_T, lt_F, le_T, le_F, eq_T, eq_F, ltm_T, ltm_F, lem_T, lem_F, eqm_F, meq_F, cl_nI, nle_T, nle_F, nlt_T, nlt_F, ↓reduceIte, or_true, true_or, or_false, false_or, and_true, true_and, and_false, false_and, not_true_eq_false, not_false_eq_true, or_self, and_self, true_implies, ite_self, Bool.and_self]
    · rw [decide_eq_true c1, decide_eq_false c2]
      simp (disch := omega) only [bE, bO, bV, bK, nI_lit, nI_add, lt_T, lt_F, le_T, le_F, eq_T, eq_F, ltm_T, ltm_F, lem_T, lem_F, eqm_F, meq_F, cl_nI, nle_T, nle_F, nlt_T, nlt_F, ↓reduceIte, or_true, true_or, or_false, false_or, and_true, true_and, and_false, false_and, not_true_eq_false, not_false_eq_true, or_self, and_self, true_implies, ite_self, Bool.and_false, Bool.false_eq_true]
  · rw [decide_eq_false c1]
    simp (disch := omega) only [bE, bO, bV, bK, nI_lit, nI_add, lt_T, lt_F, le_T, le_F, eq_T, eq_F, ltm_T, ltm_F, lem_T, lem_F, eqm_F, meq_F, cl_nI, nle_T, nle_F, nlt_T, nlt_F, ↓reduceIte, or_true, true_or, or_false, false_or, and_true, true_and, and_false, false_and, not_true_eq_false, not_false_eq_true, or_self, and_self, true_implies, ite_self, Bool.false_and, Bool.false_eq_true]
theorem l98 (h : PF nv Y Fo dy ro fg w) {a x2 x4 : Int32} {r32 : Int32 → Mem → Option Mem} {r38 : Int32 → Int32 → Mem → Option Mem} {r53 : Int32 → Int32 → Int32 → Int32 → Mem → Option Mem} {s v : Nat} (hs : s < 6561) (hv : v < nv) : f8_findLow_98 a r32 r38 r53 x2 (nI s) x4 (nI v) w = f8_findLow_141 a r32 r38 r53 x2 (nI s) x4 (nI v) (if (decide (2 < Y) && decide (s / 81 % 9 = v)) || (decide (3 < Y) && decide (s / 729 = v)) then nI 1 else nI 0) w := by
  have l := l118 h (a := a) (x2 := x2) (x4 := x4) (r32 := r32) (r38 := r38) (r53 := r53) hs hv
  obtain ⟨⟨h1, h2, h3, h4⟩, h5, h6, -⟩ := h
  have d1 : nI s / 81 = nI (s / 81) := pk_div (d := 81) (by omega) (by omega) (by omega)
  have d2 : jrem (nI (s / 81)) 9 = nI (s / 81 % 9) := jr (d := 9) (by omega) (by omega) (by omega)
  unfold f8_findLow_98
  rw [h6, d1, d2, l]
  by_cases c1 : 2 < Y
  · by_cases c2 : s / 81 % 9 = v
    · rw [decide_eq_true c1, decide_eq_true c2]
      simp (disch := omega) only [bE, bO, bV, bK, nI_lit, nI_add, lt_T, lt_F, le_T, le_F, eq_T, eq_F, ltm_T, ltm_F, lem_T, lem_F, eqm_F, meq_F, cl_nI, nle_T, nle_F, nlt_T, nlt_F, ↓reduceIte, or_true, true_or, or_false, false_or, and_true, true_and, and_false, false_and, not_true_eq_false, not_false_eq_true, or_self, and_self, true_implies, ite_self, Bool.and_self, Bool.true_or]
    · rw [decide_eq_true c1, decide_eq_false c2]
      simp (disch := omega) only [bE, bO, bV, bK, nI_lit, nI_add, lt_T, lt_F, le_T, le_F, eq_T, eq_F, ltm_T, ltm_F, lem_T, lem_F, eqm_F, meq_F, cl_nI, nle_T, nle_F, nlt_T, nlt_F, ↓reduceIte, or_true, true_or, or_false, false_or, and_true, true_and, and_false, false_and, not_true_eq_false, not_false_eq_true, or_self, and_self, true_implies, ite_self, Bool.and_false, Bool.false_or]
  · rw [decide_eq_false c1]
    simp (disch := omega) only [bE, bO, bV, bK, nI_lit, nI_add, lt_T, lt_F, le_T, le_F, eq_T, eq_F, ltm_T, ltm_F, lem_T, lem_F, eqm_F, meq_F, cl_nI, nle_T, nle_F, nlt_T, nlt_F, ↓reduceIte, or_true, true_or, or_false, false_or, and_true, true_and, and_false, false_and, not_true_eq_false, not_false_eq_true, or_self, and_self, true_implies, ite_self, Bool.false_and, Bool.false_or]
theorem l78 (h : PF nv Y Fo dy ro fg w) {a x2 x4 : Int32} {r32 : Int32 → Mem → Option Mem} {r38 : Int32 → Int32 → Mem → Option Mem} {r53 : Int32 → Int32 → Int32 → Int32 → Mem → Option Mem} {s v : Nat} (hs : s < 6561) (hv : v < nv) : f8_findLow_78 a r32 r38 r53 x2 (nI s) x4 (nI v) w = f8_findLow_141 a r32 r38 r53 x2 (nI s) x4 (nI v) (if (decide (1 < Y) && decide (s / 9 % 9 = v)) || ((decide (2 < Y) && decide (s / 81 % 9 = v)) || (decide (3 < Y) && decide (s / 729 = v))) then nI 1 else nI 0) w := by
  have l := l98 h (a := a) (x2 := x2) (x4 := x4) (r32 := r32) (r38 := r38) (r53 := r53) hs hv
  obtain ⟨⟨h1, h2, h3, h4⟩, h5, h6, -⟩ := h
  have d1 : nI s / 9 = nI (s / 9) := pk_div (d := 9) (by omega) (by omega) (by omega)
  have d2 : jrem (nI (s / 9)) 9 = nI (s / 9 % 9) := jr (d := 9) (by omega) (by omega) (by omega)
  unfold f8_findLow_78
  rw [h6, d1, d2, l]
  by_cases c1 : 1 < Y
  · by_cases c2 : s / 9 % 9 = v
    · rw [decide_eq_true c1, decide_eq_true c2]
      simp (disch := omega) only [bE, bO, bV, bK, nI_lit, nI_add, lt_T, lt_F, le_T, le_F, eq_T, eq_F, ltm_T, ltm_F, lem_T, lem_F, eqm_F, meq_F, cl_nI, nle_T, nle_F, nlt_T, nlt_F, ↓reduceIte, or_true, true_or, or_false, false_or, and_true, true_and, and_false, false_and, not_true_eq_false, not_false_eq_true, or_self, and_self, true_implies, ite_self, Bool.and_self, Bool.true_or]
    · rw [decide_eq_true c1, decide_eq_false c2]
      simp (disch := omega) only [bE, bO, bV, bK, nI_lit, nI_add, lt_T, lt_F, le_T, le_F, eq_T, eq_F, ltm_T, ltm_F, lem_T, lem_F, eqm_F, meq_F, cl_nI, nle_T, nle_F, nlt_T, nlt_F, ↓reduceIte, or_true, true_or, or_false, false_or, and_true, true_and, and_false, false_and, not_true_eq_false, not_false_eq_true, or_self, and_self, true_implies, ite_self, Bool.and_false, Bool.false_or]
  · rw [decide_eq_false c1]
    simp (disch := omega) only [bE, bO, bV, bK, nI_lit, nI_add, lt_T, lt_F, le_T, le_F, eq_T, eq_F, ltm_T, ltm_F, lem_T, lem_F, eqm_F, meq_F, cl_nI, nle_T, nle_F, nlt_T, nlt_F, ↓reduceIte, or_true, true_or, or_false, false_or, and_true, true_and, and_false, false_and, not_true_eq_false, not_false_eq_true, or_self, and_self, true_implies, ite_self, Bool.false_and, Bool.false_or]
theorem l53 (h : PF nv Y Fo dy ro fg w) {a x2 x4 : Int32} {r32 : Int32 → Mem → Option Mem} {r38 : Int32 → Int32 → Mem → Option Mem} {s v n : Nat} (hs : s < 6561) (hv : v < nv) : f8_findLow_53 a r32 r38 (n + 1) x2 (nI s) x4 (nI v) w = f8_findLow_141 a r32 r38 (f8_findLow_53 a r32 r38 n) x2 (nI s) x4 (nI v) (if wsb Y v s then nI 1 else nI 0) w := by
  have l := l78 h (a := a) (x2 := x2) (x4 := x4) (r32 := r32) (r38 := r38) (r53 := f8_findLow_53 a r32 r38 n) hs hv
  obtain ⟨⟨h1, h2, h3, h4⟩, h5, h6, -⟩ := h
  have d2 : jrem (nI s) 9 = nI (s % 9) := jr (d := 9) (by omega) (by omega) (by omega)
  rw [f8_findLow_53, h5, h6, d2, l, if_neg (nI_ge hv (by omega))]
  unfold wsb
  by_cases c1 : 0 < Y
  · by_cases c2 : s % 9 = v
    · rw [decide_eq_true c1, decide_eq_true c2]
      simp (disch := omega) only [bE, bO, bV, bK, nI_lit, nI_add, lt_T, lt_F, le_T, le_F, eq_T, eq_F, ltm_T, ltm_F, lem_T, lem_F, eqm_F, meq_F, cl_nI, nle_T, nle_F, nlt_T, nlt_F, ↓reduceIte, or_true, true_or, or_false, false_or, and_true, true_and, and_false, false_and, not_true_eq_false, not_false_eq_true, or_self, and_self, true_implies, ite_self, Bool.and_self, Bool.true_or]
    · rw [decide_eq_true c1, decide_eq_false c2]
      simp (disch := omega) only [bE, bO, bV, bK, nI_lit, nI_add, lt_T, lt_F, le_T, le_F, eq_T, eq_F, ltm_T, ltm_F, lem_T, lem_F, eqm_F, meq_F, cl_nI, nle_T, nle_F, nlt_T, nlt_F, ↓reduceIte, or_true, true_or, or_false, false_or, and_true, true_and, and_false, false_and, not_true_eq_false, not_false_eq_true, or_self, and_self, true_implies, ite_self, Bool.and_false, Bool.false_or]
  · rw [decide_eq_false c1]
    simp (disch := omega) only [bE, bO, bV, bK, nI_lit, nI_add, lt_T, lt_F, le_T, le_F, eq_T, eq_F, ltm_T, ltm_F, lem_T, lem_F, eqm_F, meq_F, cl_nI, nle_T, nle_F, nlt_T, nlt_F, ↓reduceIte, or_true, true_or, or_false, false_or, and_true, true_and, and_false, false_and, not_true_eq_false, not_false_eq_true, or_self, and_self, true_implies, ite_self, Bool.false_and, Bool.false_or]
theorem lo53 (h : PF nv Y Fo dy ro fg w) {a : Int32} {r32 : Int32 → Mem → Option Mem} {r38 : Int32 → Int32 → Mem → Option Mem} {s d r : Nat} (hs : s < 6561) (hd : d < 10) {P : Nat → Bool} {f : Nat → Nat} (hP : P = fun v => !wsb Y v s && myg ro (fun j => anyB Fo fg (dy + j)) v d) (hf : f = fun v => 2 * ro v + lwf nv Y ro (fun j => anyB Fo fg (dy + j)) r (d + 1) (s % 729 * 9 + v))
    (hT : ∀ s', s' < 6561 → w.1 32 33 (6561 * (d + 1) + s') = nI (lwf nv Y ro (fun j => anyB Fo fg (dy + j)) r (d + 1) s')) :
    ∀ i v n, v + i = nv → i < n → f8_findLow_53 a r32 r38 n (nI d) (nI s) (nI (mnv P f v)) (nI v) w = f8_findLow_223 a r32 r38 (nI d) (nI s) (nI (mnv P f nv)) w := by
  have hnv := h.1.1
  have hdy := h.1.2.2.2
  have e11 := h.2.2.2.1
  intro i
  induction i with
  | zero =>
    intro v n hv hn
    obtain ⟨n, rfl⟩ : ∃ z, n = z + 1 := ⟨n - 1, by omega⟩
    obtain rfl : v = nv := by omega
    rw [f8_findLow_53, h.2.1, if_pos (Int32.le_refl _)]
  | succ i ih =>
    intro v n hv hn
    obtain ⟨n, rfl⟩ : ∃ z, n = z + 1 := ⟨n - 1, by omega⟩
    obtain ⟨y1, y2⟩ := h.2.2.2.2.2.1 v (by omega)
    have i1 := ih (v + 1) n (by omega) (by omega)
    have mg := may_ok h (v := v) (d := d) (by omega) (by omega)
    have ml := mnv_le P f v
    have d2 : jrem (nI s) (nI 729) = nI (s % 729) := jr (d := 729) (by omega) (by omega) (by omega)
    have tt := hT (s % 729 * 9 + v) (by omega)
    have ll := lwf_le (nv := nv) (Y := Y) (ro := ro) (fog := fun j => anyB Fo fg (dy + j)) r (d + 1) (s % 729 * 9 + v)
    have hfv : f v = 2 * ro v + lwf nv Y ro (fun j => anyB Fo fg (dy + j)) r (d + 1) (s % 729 * 9 + v) := by rw [hf]
    have ix : 6561 * (d + 1) + s % 729 * 9 + v = 6561 * (d + 1) + (s % 729 * 9 + v) := by omega
    have ib : 6561 * (d + 1) + (s % 729 * 9 + v) < 72171 := by omega
    have ea : nI d + 1 = nI (d + 1) := nI_add d 1
    rw [l53 h hs (by omega)]
    unfold f8_findLow_141
    cases hw : wsb Y v s with
    | true =>
      have hp : P v = false := by rw [hP]; show (!wsb Y v s && _) = false; rw [hw]; rfl
      rw [(mnv_n (P := P) (f := f) (v := v) (fun z => by rw [hp] at z; cases z)).1] at i1
      simp (disch := omega) only [bE, bO, bV, bK, nI_lit, nI_add, lt_T, lt_F, le_T, le_F, eq_T, eq_F, ltm_T, ltm_F, lem_T, lem_F, eqm_F, meq_F, cl_nI, nle_T, nle_F, nlt_T, nlt_F, ↓reduceIte, or_true, true_or, or_false, false_or, and_true, true_and, and_false, false_and, not_true_eq_false, not_false_eq_true, or_self, and_self, true_implies, ite_self, pk_mul, d2, ix, tt, y2]
      exact i1
    | false =>
      cases hm : myg ro (fun j => anyB Fo fg (dy + j)) v d with
      | false =>
        have hp : P v = false := by rw [hP]; show (!wsb Y v s && myg ro (fun j => anyB Fo fg (dy + j)) v d) = false; rw [hm, Bool.and_false]
        rw [(mnv_n (P := P) (f := f) (v := v) (fun z => by rw [hp] at z; cases z)).1] at i1
        rw [hm, if_neg (by decide)] at mg
        simp (disch := omega) only [bE, bO, bV, bK, nI_lit, nI_add, lt_T, lt_F, le_T, le_F, eq_T, eq_F, ltm_T, ltm_F, lem_T, lem_F, eqm_F, meq_F, cl_nI, nle_T, nle_F, nlt_T, nlt_F, ↓reduceIte, or_true, true_or, or_false, false_or, and_true, true_and, and_false, false_and, not_true_eq_false, not_false_eq_true, or_self, and_self, true_implies, ite_self, pk_mul, d2, ix, tt, y2, Bool.false_eq_true, e11, mg]
        exact i1
      | true =>
        have hp : P v = true := by rw [hP]; show (!wsb Y v s && myg ro (fun j => anyB Fo fg (dy + j)) v d) = true; rw [hw, hm]; rfl
        rw [hm, if_pos rfl] at mg
        by_cases hlt : f v < mnv P f v
        · rw [(mnv_s hp hlt).1, hfv] at i1
          rw [hfv] at hlt
          simp (disch := omega) only [bE, bO, bV, bK, nI_lit, nI_add, lt_T, lt_F, le_T, le_F, eq_T, eq_F, ltm_T, ltm_F, lem_T, lem_F, eqm_F, meq_F, cl_nI, nle_T, nle_F, nlt_T, nlt_F, ↓reduceIte, or_true, true_or, or_false, false_or, and_true, true_and, and_false, false_and, not_true_eq_false, not_false_eq_true, or_self, and_self, true_implies, ite_self, pk_mul, d2, ix, tt, y2, Bool.false_eq_true, e11, mg]
          exact i1
        · rw [(mnv_n (P := P) (f := f) (v := v) (fun _ => hlt)).1] at i1
          rw [hfv] at hlt
          simp (disch := omega) only [bE, bO, bV, bK, nI_lit, nI_add, lt_T, lt_F, le_T, le_F, eq_T, eq_F, ltm_T, ltm_F, lem_T, lem_F, eqm_F, meq_F, cl_nI, nle_T, nle_F, nlt_T, nlt_F, ↓reduceIte, or_true, true_or, or_false, false_or, and_true, true_and, and_false, false_and, not_true_eq_false, not_false_eq_true, or_self, and_self, true_implies, ite_self, pk_mul, d2, ix, tt, y2, Bool.false_eq_true, e11, mg]
          exact i1
theorem lo38 (h : PF nv Y Fo dy ro fg w) {a : Int32} {r32 : Int32 → Mem → Option Mem} {d r : Nat} (hd : d < 10) :
    ∀ i s n T, s + i = 6561 → i < n → (∀ s', s' < 6561 → T (6561 * (d + 1) + s') = nI (lwf nv Y ro (fun j => anyB Fo fg (dy + j)) r (d + 1) s')) → (∀ s', s' < s → T (6561 * d + s') = nI (lwf nv Y ro (fun j => anyB Fo fg (dy + j)) (r + 1) d s')) →
      ∃ T', f8_findLow_38 a r32 n (nI d) (nI s) (sA w 32 33 T) = r32 (nI d + (-1)) (sA w 32 33 T') ∧ (∀ s', s' < 6561 → T' (6561 * d + s') = nI (lwf nv Y ro (fun j => anyB Fo fg (dy + j)) (r + 1) d s')) ∧ (∀ q, 6561 * (d + 1) ≤ q → T' q = T q) := by
  have hnv := h.1.1
  intro i
  induction i with
  | zero =>
    intro s n T hs hn h1 h2
    obtain ⟨n, rfl⟩ : ∃ z, n = z + 1 := ⟨n - 1, by omega⟩
    obtain rfl : s = 6561 := by omega
    refine ⟨T, ?_, h2, fun _ _ => rfl⟩
    rw [f8_findLow_38, if_pos (show (6561 : Int32) ≤ nI 6561 from Int32.le_refl _)]
    simp only [bE]
  | succ i ih =>
    intro s n T hs hn h1 h2
    obtain ⟨n, rfl⟩ : ∃ z, n = z + 1 := ⟨n - 1, by omega⟩
    have hW : PF nv Y Fo dy ro fg (sA w 32 33 T) := h.k (fun k hk => ky_sA (by omega))
    obtain ⟨P, hP⟩ : ∃ P : Nat → Bool, P = fun v => !wsb Y v s && myg ro (fun j => anyB Fo fg (dy + j)) v d := ⟨_, rfl⟩
    obtain ⟨f, hf⟩ : ∃ f : Nat → Nat, f = fun v => 2 * ro v + lwf nv Y ro (fun j => anyB Fo fg (dy + j)) r (d + 1) (s % 729 * 9 + v) := ⟨_, rfl⟩
    have e := lo53 hW (a := a) (r32 := r32) (r38 := f8_findLow_38 a r32 n) (r := r) (show s < 6561 by omega) hd hP hf (fun s' hs' => by rw [kx_sA]; exact h1 s' hs') nv 0 100000 (by omega) (by omega)
    have eo : lwf nv Y ro (fun j => anyB Fo fg (dy + j)) (r + 1) d s = mnv P f nv := by rw [hP, hf]; rfl
    have ml := mnv_le P f nv
    obtain ⟨T', a1, a2, a3⟩ := ih (s + 1) n (upd T (6561 * d + s) (nI (mnv P f nv))) (by omega) (by omega) (fun s' hs' => by rw [upd_n (by omega)]; exact h1 s' hs') (fun s' hs' => by
      by_cases hz : s' = s
      · subst hz; rw [upd_s, eo]
      · rw [upd_n (by omega)]; exact h2 s' (by omega))
    refine ⟨T', ?_, a2, fun q hq => by rw [a3 q hq, upd_n (by omega)]⟩
    rw [← a1]
    rw [f8_findLow_38, if_neg (show ¬ (6561 : Int32) ≤ nI s from nI_ge (b := 6561) (by omega) (by omega))]
    refine Eq.trans e ?_
    have ib : 6561 * d + s < 72171 := by omega
    unfold f8_findLow_223
    by_cases hz : mnv P f nv = 1000000
    · simp (disch := omega) only [bE, bO, bV, bK, nI_lit, nI_add, lt_T, lt_F, le_T, le_F, eq_T, eq_F, ltm_T, ltm_F, lem_T, lem_F, eqm_F, meq_F, cl_nI, nle_T, nle_F, nlt_T, nlt_F, ↓reduceIte, or_true, true_or, or_false, false_or, and_true, true_and, and_false, false_and, not_true_eq_false, not_false_eq_true, or_self, and_self, true_implies, ite_self, hz, pk_mul, sI_A]
    · simp (disch := omega) only [bE, bO, bV, bK, nI_lit, nI_add, lt_T, lt_F, le_T, le_F, eq_T, eq_F, ltm_T, ltm_F, lem_T, lem_F, eqm_F, meq_F, cl_nI, nle_T, nle_F, nlt_T, nlt_F, ↓reduceIte, or_true, true_or, or_false, false_or, and_true, true_and, and_false, false_and, not_true_eq_false, not_false_eq_true, or_self, and_self, true_implies, ite_self, pk_mul, sI_A]
theorem lo32 (h : PF nv Y Fo dy ro fg w) {a : Int32} {N : Nat} (hN : N ≤ 10) :
    ∀ d n T, d ≤ N → d < n → (∀ e s, d ≤ e → e ≤ N → s < 6561 → T (6561 * e + s) = nI (lwf nv Y ro (fun j => anyB Fo fg (dy + j)) (N - e) e s)) →
      ∃ T', f8_findLow_32 a n (nI d + (-1)) (sA w 32 33 T) = some (sA w 32 33 T') ∧ (∀ e s, e ≤ N → s < 6561 → T' (6561 * e + s) = nI (lwf nv Y ro (fun j => anyB Fo fg (dy + j)) (N - e) e s)) := by
  intro d
  induction d with
  | zero =>
    intro n T hd hn hT
    obtain ⟨n, rfl⟩ : ∃ z, n = z + 1 := ⟨n - 1, by omega⟩
    refine ⟨T, ?_, fun e s he hs => hT e s (by omega) he hs⟩
    rw [f8_findLow_32, if_pos (by decide)]
  | succ d ih =>
    intro n T hd hn hT
    obtain ⟨n, rfl⟩ : ∃ z, n = z + 1 := ⟨n - 1, by omega⟩
    obtain ⟨T1, a1, a2, a3⟩ := lo38 h (a := a) (r32 := f8_findLow_32 a n) (d := d) (r := N - (d + 1)) (by omega) 6561 0 100000 T (by omega) (by omega) (fun s' hs' => hT (d + 1) s' (by omega) hd hs') (fun s' hs' => by omega)
    obtain ⟨T', b1, b2⟩ := ih n T1 (by omega) (by omega) (fun e s h1 h2 h3 => by
      by_cases hz : e = d
      · subst hz
        rw [a2 s h3, show N - (e + 1) + 1 = N - e by omega]
      · rw [a3 _ (by omega)]; exact hT e s (by omega) h2 h3)
    refine ⟨T', ?_, b2⟩
    rw [f8_findLow_32, pk_m1, if_neg (nI_pos (by omega))]
    exact a1.trans b1
theorem lo2 {a : Int32} {N : Nat} (hN : N ≤ 10) (ha : a = nI N) (w : Mem) : ∀ i s n T, s + i = 6561 → i < n → (∀ s', s' < s → T (6561 * N + s') = nI 0) → ∃ T', f8_findLow_2 a n (nI s) (sA w 32 33 T) = f8_findLow_32 a 100000 (nI N - 1) (sA w 32 33 T') ∧ (∀ s', s' < 6561 → T' (6561 * N + s') = nI 0) := by
  intro i
  induction i with
  | zero =>
    intro s n T hs hn h1
    obtain ⟨n, rfl⟩ : ∃ z, n = z + 1 := ⟨n - 1, by omega⟩
    obtain rfl : s = 6561 := by omega
    refine ⟨T, ?_, h1⟩
    rw [f8_findLow_2, if_pos (show (6561 : Int32) ≤ nI 6561 from Int32.le_refl _), ha]
    simp only [bE]
  | succ i ih =>
    intro s n T hs hn h1
    obtain ⟨n, rfl⟩ : ∃ z, n = z + 1 := ⟨n - 1, by omega⟩
    obtain ⟨T', a1, a2⟩ := ih (s + 1) n (upd T (6561 * N + s) (nI 0)) (by omega) (by omega) (fun s' hs' => by
      by_cases hz : s' = s
      · subst hz; rw [upd_s]
      · rw [upd_n (by omega)]; exact h1 s' (by omega))
    refine ⟨T', ?_, a2⟩
    rw [← a1]
    have ib : 6561 * N + s < 72171 := by omega
    rw [f8_findLow_2, ha]
    simp (disch := omega) only [bE, bO, bV, bK, nI_lit, nI_add, lt_T, lt_F, le_T, le_F, eq_T, eq_F, ltm_T, ltm_F, lem_T, lem_F, eqm_F, meq_F, cl_nI, nle_T, nle_F, nlt_T, nlt_F, ↓reduceIte, or_true, true_or, or_false, false_or, and_true, true_and, and_false, false_and, not_true_eq_false, not_false_eq_true, or_self, and_self, true_implies, ite_self, pk_mul, sI_A]
theorem low_ok (h : PF nv Y Fo dy ro fg w) {N : Nat} (hN : N ≤ 10) : ∃ T, f8_findLow (nI N) w = some (sA w 32 33 T) ∧ (∀ e s, e ≤ N → s < 6561 → T (6561 * e + s) = nI (lwf nv Y ro (fun j => anyB Fo fg (dy + j)) (N - e) e s)) := by
  obtain ⟨T1, a1, a2⟩ := lo2 (a := nI N) hN rfl w 6561 0 100000 (w.1 32 33) (by omega) (by omega) (fun s' hs' => by omega)
  obtain ⟨T2, b1, b2⟩ := lo32 h (a := nI N) hN N 100000 T1 (by omega) (by omega) (fun e s h1 h2 h3 => by
    obtain rfl : e = N := by omega
    rw [a2 s h3, Nat.sub_self]; rfl)
  rw [sA_id] at a1
  refine ⟨T2, ?_, b2⟩
  unfold f8_findLow
  refine Eq.trans a1 ?_
  rw [Int32.sub_eq_add_neg]
  exact b1
end Low
