/-! the text: blanks, numbers, both readers -/
def sb (tx : Nat → Nat) : Nat → Nat → Nat
  | 0, p => p
  | k + 1, p => if tx p = 32 then sb tx k (p + 1) else p
def fgs (tx : Nat → Nat) : Nat → Nat → Nat
  | 0, p => p
  | k + 1, p => if 48 ≤ tx p ∧ tx p ≤ 57 then fgs tx k (p + 1) else p
def vl (tx : Nat → Nat) (p : Nat) : Nat → Nat
  | 0 => 0
  | i + 1 => 10 * vl tx p i + (tx (p + i) - 48)
theorem sb_le (tx : Nat → Nat) : ∀ k p, p ≤ sb tx k p ∧ sb tx k p ≤ p + k := by
  intro k
  induction k with
  | zero => intro p; exact ⟨Nat.le_refl _, Nat.le_refl _⟩
  | succ k ih =>
    intro p
    rw [sb]
    have := ih (p + 1)
    split <;> omega
theorem fgs_le (tx : Nat → Nat) : ∀ k p, p ≤ fgs tx k p ∧ fgs tx k p ≤ p + k := by
  intro k
  induction k with
  | zero => intro p; exact ⟨Nat.le_refl _, Nat.le_refl _⟩
  | succ k ih =>
    intro p
    rw [fgs]
    have := ih (p + 1)
    split <;> omega
theorem vl_le {tx : Nat → Nat} {p : Nat} : ∀ i, i ≤ 4 → (∀ j, j < i → tx (p + j) ≤ 57) → vl tx p i < 10 ^ i := by
  intro i
  induction i with
  | zero => intro _ _; rw [vl]; omega
  | succ i ih =>
    intro hi h
    have h1 := ih (by omega) (fun j hj => h j (by omega))
    have h2 := h i (by omega)
    rw [vl, Nat.pow_succ]
    omega
theorem fgs_in {tx : Nat → Nat} : ∀ k p j, p ≤ j → j < fgs tx k p → 48 ≤ tx j ∧ tx j ≤ 57 := by
  intro k
  induction k with
  | zero => intro p j h1 h2; rw [fgs] at h2; omega
  | succ k ih =>
    intro p j h1 h2
    rw [fgs] at h2
    split at h2
    · rename_i hp
      by_cases hz : j = p
      · subst hz; exact hp
      · exact ih (p + 1) j (by omega) h2
    · omega
/-- the class's reader -/
def RS (tx : Nat → Nat) (L p : Nat) (w : Mem) : Prop := (L ≤ 200 ∧ p ≤ L) ∧ w.2.2 27 0 = (26, 1) ∧ w.1 27 1 0 = nI L ∧ w.1 27 4 0 = nI p ∧ w.1 27 2 0 = nI 0 ∧ ∀ i, i < L → tx i < 256 ∧ w.1 26 0 i = nI (tx i)
def ltr (tx : Nat → Nat) (L p : Nat) : Nat := if p < L then tx p else 0
theorem RS.at {tx : Nat → Nat} {L p q : Nat} {w : Mem} (h : RS tx L p w) (hq : q ≤ L) : RS tx L q (sI w 27 4 0 (nI q)) := by
  obtain ⟨⟨h1, h2⟩, h3, h4, h5, h6, h7⟩ := h
  exact ⟨⟨h1, hq⟩, h3, by rw [ky_sI (by omega)]; exact h4, by rw [kx_sI, upd_s], by rw [ky_sI (by omega)]; exact h6, fun i hi => by rw [ob_sI (by omega)]; exact h7 i hi⟩
theorem RS.id4 {tx : Nat → Nat} {L p : Nat} {w : Mem} (h : RS tx L p w) : sI w 27 4 0 (nI p) = w := by
  rw [sI_sA]
  refine sA_x ?_
  funext i
  by_cases hi : i = 0
  · subst hi; rw [upd_s]; exact h.2.2.2.1
  · rw [upd_n hi]
theorem sI_sI (w : Mem) (d k i : Nat) (x y : Int32) : sI (sI w d k i x) d k i y = sI w d k i y := by
  rw [sI_sA w, sI_A, upd_upd, ← sI_sA]
theorem lh_ok {tx : Nat → Nat} {L p : Nat} {w : Mem} (h : RS tx L p w) : f5_letterHere w = some (nI (ltr tx L p), w) := by
  obtain ⟨⟨h1, h2⟩, h3, h4, h5, h6, h7⟩ := h
  unfold f5_letterHere ltr
  by_cases hp : p < L
  · obtain ⟨c1, c2⟩ := h7 p hp
    have c3 := jcc_ok (tx p) c1
    simp (disch := omega) only [bE, bO, bV, bK, nI_lit, nI_add, lt_T, lt_F, le_T, le_F, eq_T, eq_F, ltm_T, ltm_F, lem_T, lem_F, eqm_F, meq_F, cl_nI, nle_T, nle_F, nlt_T, nlt_F, ↓reduceIte, or_true, true_or, or_false, false_or, and_true, true_and, and_false, false_and, not_true_eq_false, not_false_eq_true, or_self, and_self, true_implies, ite_self, h3, h4, h5, c2, c3, hp]
  · simp (disch := omega) only [bE, bO, bV, bK, nI_lit, nI_add, lt_T, lt_F, le_T, le_F, eq_T, eq_F, ltm_T, ltm_F, lem_T, lem_F, eqm_F, meq_F, cl_nI, nle_T, nle_F, nlt_T, nlt_F, ↓reduceIte, or_true, true_or, or_false, false_or, and_true, true_and, and_false, false_and, not_true_eq_false, not_false_eq_true, or_self, and_self, true_implies, ite_self, h4, h5, hp]
theorem sk10 {tx : Nat → Nat} {L : Nat} : ∀ k p x n w, RS tx L p w → p + k = L → x + k < 240 → k < n → f5_skipBlanks_10 n (nI x) w = some (sI w 27 4 0 (nI (sb tx k p))) := by
  intro k
  induction k with
  | zero =>
    intro p x n w h hp hx hn
    obtain ⟨n, rfl⟩ : ∃ m, n = m + 1 := ⟨n - 1, by omega⟩
    have l := lh_ok h
    rw [ltr, if_neg (by omega)] at l
    rw [f5_skipBlanks_10, sb, h.id4]
    simp (disch := omega) only [bE, bO, bV, bK, nI_lit, nI_add, lt_T, lt_F, le_T, le_F, eq_T, eq_F, ltm_T, ltm_F, lem_T, lem_F, eqm_F, meq_F, cl_nI, nle_T, nle_F, nlt_T, nlt_F, ↓reduceIte, or_true, true_or, or_false, false_or, and_true, true_and, and_false, false_and, not_true_eq_false, not_false_eq_true, or_self, and_self, true_implies, ite_self, l]
  | succ k ih =>
    intro p x n w h hp hx hn
    obtain ⟨n, rfl⟩ : ∃ m, n = m + 1 := ⟨n - 1, by omega⟩
    have l := lh_ok h
    rw [ltr, if_pos (by omega)] at l
    have h5 := h.2.2.2.1
    have h7 := (h.2.2.2.2.2 p (by omega)).1
    rw [f5_skipBlanks_10, sb]
    by_cases hz : tx p = 32
    · have i1 := ih (p + 1) (x + 1) n _ (h.at (q := p + 1) (by omega)) (by omega) (by omega) (by omega)
      rw [sI_sI] at i1
      rw [if_pos hz]
      simp (disch := omega) only [bE, bO, bV, bK, nI_lit, nI_add, lt_T, lt_F, le_T, le_F, eq_T, eq_F, ltm_T, ltm_F, lem_T, lem_F, eqm_F, meq_F, cl_nI, nle_T, nle_F, nlt_T, nlt_F, ↓reduceIte, or_true, true_or, or_false, false_or, and_true, true_and, and_false, false_and, not_true_eq_false, not_false_eq_true, or_self, and_self, true_implies, ite_self, l, hz, h5]
      exact i1
    · rw [if_neg hz, h.id4]
      simp (disch := omega) only [bE, bO, bV, bK, nI_lit, nI_add, lt_T, lt_F, le_T, le_F, eq_T, eq_F, ltm_T, ltm_F, lem_T, lem_F, eqm_F, meq_F, cl_nI, nle_T, nle_F, nlt_T, nlt_F, ↓reduceIte, or_true, true_or, or_false, false_or, and_true, true_and, and_false, false_and, not_true_eq_false, not_false_eq_true, or_self, and_self, true_implies, ite_self, l]
theorem sk_ok {tx : Nat → Nat} {L p : Nat} {w : Mem} (h : RS tx L p w) : f5_skipBlanks w = some (sI w 27 4 0 (nI (sb tx (L - p) p))) := by
  have i1 := sk10 (L - p) p 0 100000 w h (by have := h.1; omega) (by have := h.1; omega) (by have := h.1; omega)
  unfold f5_skipBlanks
  rw [if_pos (show w.1 27 2 0 = 0 from h.2.2.2.2.1)]
  exact i1
/-- what a reading leaves -/
def E27 (w w' : Mem) : Prop := (∀ d, d ≠ 27 → w'.1 d = w.1 d) ∧ w'.2 = w.2
def RF (c q : Nat) (w : Mem) : Prop := w.1 27 2 0 = nI c ∧ w.1 27 4 0 = nI q
theorem rn26 {tx : Nat → Nat} {L p1 : Nat} {a b : Int32} : ∀ k p n x w, RS tx L p w → p + k = L → p1 ≤ p → k < n → (∀ j, p1 ≤ j → j < p → 48 ≤ tx j ∧ tx j ≤ 57) → (p - p1 ≤ 3 → x = nI (vl tx p1 (p - p1))) → ∃ x', f5_readNumber_26 a b n x (nI (p - p1)) w = f5_readNumber_79 a b x' (sI w 27 4 0 (nI (fgs tx k p))) ∧ (fgs tx k p - p1 ≤ 3 → x' = nI (vl tx p1 (fgs tx k p - p1))) := by
  intro k
  induction k with
  | zero =>
    intro p n x w h hp hp1 hn hd hx
    obtain ⟨n, rfl⟩ : ∃ m, n = m + 1 := ⟨n - 1, by omega⟩
    have hL := h.1
    have l := lh_ok h
    rw [ltr, if_neg (by omega)] at l
    refine ⟨x, ?_, hx⟩
    rw [f5_readNumber_26, fgs, h.id4]
    unfold f5_isFigure
    simp (disch := omega) only [bE, bO, bV, bK, nI_lit, nI_add, lt_T, lt_F, le_T, le_F, eq_T, eq_F, ltm_T, ltm_F, lem_T, lem_F, eqm_F, meq_F, cl_nI, nle_T, nle_F, nlt_T, nlt_F, ↓reduceIte, or_true, true_or, or_false, false_or, and_true, true_and, and_false, false_and, not_true_eq_false, not_false_eq_true, or_self, and_self, true_implies, ite_self, l]
  | succ k ih =>
    intro p n x w h hp hp1 hn hd hx
    obtain ⟨n, rfl⟩ : ∃ m, n = m + 1 := ⟨n - 1, by omega⟩
    have hL := h.1
    have l := lh_ok h
    rw [ltr, if_pos (by omega)] at l
    have h5 := h.2.2.2.1
    have h7 := (h.2.2.2.2.2 p (by omega)).1
    rw [f5_readNumber_26, fgs]
    unfold f5_isFigure
    by_cases hz : 48 ≤ tx p ∧ tx p ≤ 57
    · rw [if_pos hz]
      have hd' : ∀ j, p1 ≤ j → j < p + 1 → 48 ≤ tx j ∧ tx j ≤ 57 := fun j h1 h2 => by
        by_cases e : j = p
        · subst e; exact hz
        · exact hd j h1 (by omega)
      have ee : p + 1 - p1 = p - p1 + 1 := by omega
      by_cases h3 : 3 ≤ p - p1
      · obtain ⟨x', i1, i2⟩ := ih (p + 1) n x _ (h.at (q := p + 1) (by omega)) (by omega) (by omega) (by omega) hd' (fun z => by omega)
        rw [sI_sI, ee] at i1
        refine ⟨x', ?_, i2⟩
        simp (disch := omega) only [bE, bO, bV, bK, nI_lit, nI_add, lt_T, lt_F, le_T, le_F, eq_T, eq_F, ltm_T, ltm_F, lem_T, lem_F, eqm_F, meq_F, cl_nI, nle_T, nle_F, nlt_T, nlt_F, ↓reduceIte, or_true, true_or, or_false, false_or, and_true, true_and, and_false, false_and, not_true_eq_false, not_false_eq_true, or_self, and_self, true_implies, ite_self, l, h5, h3, hz.1, hz.2]
        exact i1
      · have hx3 := hx (by omega)
        have hv : vl tx p1 (p - p1) < 10 ^ (p - p1) := vl_le _ (by omega) (fun j hj => (hd (p1 + j) (by omega) (by omega)).2)
        have hv2 : 10 ^ (p - p1) ≤ 10 ^ 3 := Nat.pow_le_pow_right (by omega) (by omega)
        obtain ⟨x', i1, i2⟩ := ih (p + 1) n (nI (vl tx p1 (p - p1) * 10 + (tx p - 48))) _ (h.at (q := p + 1) (by omega)) (by omega) (by omega) (by omega) hd' (fun z => by rw [ee, vl, show p1 + (p - p1) = p by omega, Nat.mul_comm])
        rw [sI_sI, ee] at i1
        refine ⟨x', ?_, i2⟩
        simp (disch := omega) only [bE, bO, bV, bK, nI_lit, nI_add, lt_T, lt_F, le_T, le_F, eq_T, eq_F, ltm_T, ltm_F, lem_T, lem_F, eqm_F, meq_F, cl_nI, nle_T, nle_F, nlt_T, nlt_F, ↓reduceIte, or_true, true_or, or_false, false_or, and_true, true_and, and_false, false_and, not_true_eq_false, not_false_eq_true, or_self, and_self, true_implies, ite_self, l, h5, h3, hz.1, hz.2, hx3, pk_mul, pk_sub]
        exact i1
    · refine ⟨x, ?_, ?_⟩
      · rw [if_neg hz, h.id4]
        by_cases hq : 48 ≤ tx p
        · simp (disch := omega) only [bE, bO, bV, bK, nI_lit, nI_add, lt_T, lt_F, le_T, le_F, eq_T, eq_F, ltm_T, ltm_F, lem_T, lem_F, eqm_F, meq_F, cl_nI, nle_T, nle_F, nlt_T, nlt_F, ↓reduceIte, or_true, true_or, or_false, false_or, and_true, true_and, and_false, false_and, not_true_eq_false, not_false_eq_true, or_self, and_self, true_implies, ite_self, l]
        · simp (disch := omega) only [bE, bO, bV, bK, nI_lit, nI_add, lt_T, lt_F, le_T, le_F, eq_T, eq_F, ltm_T, ltm_F, lem_T, lem_F, eqm_F, meq_F, cl_nI, nle_T, nle_F, nlt_T, nlt_F, ↓reduceIte, or_true, true_or, or_false, false_or, and_true, true_and, and_false, false_and, not_true_eq_false, not_false_eq_true, or_self, and_self, true_implies, ite_self, l]
      · rw [if_neg hz]; exact hx
def n1 (tx : Nat → Nat) (L p : Nat) : Nat := sb tx (L - p) p
def n2 (tx : Nat → Nat) (L p : Nat) : Nat := fgs tx (L - n1 tx L p) (n1 tx L p)
def nvl (tx : Nat → Nat) (L p : Nat) : Nat := vl tx (n1 tx L p) (n2 tx L p - n1 tx L p)
def nb (tx : Nat → Nat) (L p lo hi : Nat) : Nat := if n2 tx L p = n1 tx L p then 1 else if 3 < n2 tx L p - n1 tx L p ∨ nvl tx L p < lo ∨ hi < nvl tx L p then 2 else 0
theorem n_le {tx : Nat → Nat} {L p : Nat} (h : p ≤ L) : p ≤ n1 tx L p ∧ n1 tx L p ≤ n2 tx L p ∧ n2 tx L p ≤ L := by
  have h1 := sb_le tx (L - p) p
  have h2 := fgs_le tx (L - n1 tx L p) (n1 tx L p)
  have e1 : n1 tx L p = sb tx (L - p) p := rfl
  have e2 : n2 tx L p = fgs tx (L - n1 tx L p) (n1 tx L p) := rfl
  omega
theorem nvl_lt {tx : Nat → Nat} {L p : Nat} (h : n2 tx L p - n1 tx L p ≤ 3) : nvl tx L p < 1000 := by
  have h1 := vl_le (tx := tx) (p := n1 tx L p) (n2 tx L p - n1 tx L p) (by omega) (fun j hj => (fgs_in (tx := tx) (L - n1 tx L p) (n1 tx L p) (n1 tx L p + j) (by omega) (by have : n2 tx L p = fgs tx (L - n1 tx L p) (n1 tx L p) := rfl; omega)).2)
  have h2 : 10 ^ (n2 tx L p - n1 tx L p) ≤ 10 ^ 3 := Nat.pow_le_pow_right (by omega) (by omega)
  unfold nvl
  omega
theorem rn_ok {tx : Nat → Nat} {L p lo hi : Nat} {w : Mem} (h : RS tx L p w) (hlo : lo < 1000) (hhi : hi < 1000) : ∃ r w', f5_readNumber (nI lo) (nI hi) w = some (r, w') ∧ E27 w w' ∧ (nb tx L p lo hi = 0 → r = nI (nvl tx L p) ∧ RS tx L (n2 tx L p) w' ∧ w'.1 27 3 0 = nI (n1 tx L p)) ∧ (nb tx L p lo hi ≠ 0 → RF (nb tx L p lo hi) (n1 tx L p) w') := by
  have hL := h.1
  have hn := n_le (tx := tx) hL.2
  have s1 := sk_ok h
  have h1 := h.at (q := n1 tx L p) (by omega)
  obtain ⟨W, hW⟩ : ∃ W, W = sI (sI w 27 4 0 (nI (n1 tx L p))) 27 3 0 (nI (n1 tx L p)) := ⟨_, rfl⟩
  have h2 : RS tx L (n1 tx L p) W := by
    subst hW
    obtain ⟨⟨a1, a2⟩, a3, a4, a5, a6, a7⟩ := h1
    exact ⟨⟨a1, by omega⟩, a3, by rw [ky_sI (by omega)]; exact a4, by rw [ky_sI (by omega)]; exact a5, by rw [ky_sI (by omega)]; exact a6, fun i hi => by rw [ob_sI (by omega)]; exact a7 i hi⟩
  have e3 : W.1 27 3 0 = nI (n1 tx L p) := by rw [hW, kx_sI, upd_s]
  obtain ⟨x', i1, i2⟩ := rn26 (p1 := n1 tx L p) (a := nI lo) (b := nI hi) (L - n1 tx L p) (n1 tx L p) 100000 (nI 0) W h2 (by omega) (by omega) (by omega) (fun j j1 j2 => by omega) (fun _ => by rw [Nat.sub_self]; rfl)
  rw [Nat.sub_self] at i1
  have e2 : fgs tx (L - n1 tx L p) (n1 tx L p) = n2 tx L p := rfl
  rw [e2] at i1 i2
  have h4 := h2.at (q := n2 tx L p) (by omega)
  have e3' : (sI W 27 4 0 (nI (n2 tx L p))).1 27 3 0 = nI (n1 tx L p) := by rw [ky_sI (by omega)]; exact e3
  have eW : E27 w (sI W 27 4 0 (nI (n2 tx L p))) := by
    subst hW
    refine ⟨fun d hd => by rw [ob_sI hd, ob_sI hd, ob_sI hd], rfl⟩
  have e0 : f5_readNumber (nI lo) (nI hi) w = f5_readNumber_79 (nI lo) (nI hi) x' (sI W 27 4 0 (nI (n2 tx L p))) := by
    rw [← i1, hW]
    unfold f5_readNumber
    rw [if_pos (show w.1 27 2 0 = 0 from h.2.2.2.2.1), s1, bV]
    have e5 : (sI w 27 4 0 (nI (sb tx (L - p) p))).1 27 4 0 = nI (n1 tx L p) := by rw [kx_sI, upd_s]; rfl
    simp only [bE]
    rw [e5]; rfl
  rw [e0]
  obtain ⟨V, hV⟩ : ∃ V, V = sI W 27 4 0 (nI (n2 tx L p)) := ⟨_, rfl⟩
  rw [← hV] at h4 e3' eW ⊢
  have h5 := h4.2.2.2.1
  have h6 := h4.2.2.2.2.1
  have bl : ∀ c q : Nat, f5_blame (nI c) (nI q) V = some (sI (sI V 27 2 0 (nI c)) 27 4 0 (nI q)) := by
    intro c q
    unfold f5_blame
    rw [if_pos (show V.1 27 2 0 = 0 from h6)]
    simp only [bE]
  have ef : ∀ c q : Nat, E27 w (sI (sI V 27 2 0 (nI c)) 27 4 0 (nI q)) := fun c q => ⟨fun d hd => by rw [ob_sI hd, ob_sI hd]; exact eW.1 d hd, eW.2⟩
  have rf : ∀ c q : Nat, RF c q (sI (sI V 27 2 0 (nI c)) 27 4 0 (nI q)) := fun c q => ⟨by rw [ky_sI (by omega), kx_sI, upd_s], by rw [kx_sI, upd_s]⟩
  unfold f5_readNumber_79 f5_readNumber_123 nb
  by_cases c1 : n2 tx L p = n1 tx L p
  · refine ⟨x', sI (sI V 27 2 0 (nI 1)) 27 4 0 (nI (n1 tx L p)), ?_, ef _ _, ?_, ?_⟩
    · simp (disch := omega) only [bE, bO, bV, bK, nI_lit, nI_add, lt_T, lt_F, le_T, le_F, eq_T, eq_F, ltm_T, ltm_F, lem_T, lem_F, eqm_F, meq_F, cl_nI, nle_T, nle_F, nlt_T, nlt_F, ↓reduceIte, or_true, true_or, or_false, false_or, and_true, true_and, and_false, false_and, not_true_eq_false, not_false_eq_true, or_self, and_self, true_implies, ite_self, h5, e3', pk_sub, c1, Nat.sub_self, bl]
    · rw [if_pos c1]; exact fun z => absurd z (by decide)
    · rw [if_pos c1]; exact fun _ => rf _ _
  · simp only [if_neg c1]
    by_cases c2 : 3 < n2 tx L p - n1 tx L p
    · refine ⟨x', sI (sI V 27 2 0 (nI 2)) 27 4 0 (nI (n1 tx L p)), ?_, ef _ _, ?_, ?_⟩
      · simp (disch := omega) only [bE, bO, bV, bK, nI_lit, nI_add, lt_T, lt_F, le_T, le_F, eq_T, eq_F, ltm_T, ltm_F, lem_T, lem_F, eqm_F, meq_F, cl_nI, nle_T, nle_F, nlt_T, nlt_F, ↓reduceIte, or_true, true_or, or_false, false_or, and_true, true_and, and_false, false_and, not_true_eq_false, not_false_eq_true, or_self, and_self, true_implies, ite_self, h5, e3', pk_sub, bl]
      · rw [if_pos (Or.inl c2)]; exact fun z => absurd z (by decide)
      · rw [if_pos (Or.inl c2)]; exact fun _ => rf _ _
    · have hx : x' = nI (nvl tx L p) := i2 (by omega)
      have hl := nvl_lt (tx := tx) (L := L) (p := p) (by omega)
      by_cases c3 : nvl tx L p < lo ∨ hi < nvl tx L p
      · refine ⟨x', sI (sI V 27 2 0 (nI 2)) 27 4 0 (nI (n1 tx L p)), ?_, ef _ _, ?_, ?_⟩
        · by_cases c4 : nvl tx L p < lo
          · simp (disch := omega) only [bE, bO, bV, bK, nI_lit, nI_add, lt_T, lt_F, le_T, le_F, eq_T, eq_F, ltm_T, ltm_F, lem_T, lem_F, eqm_F, meq_F, cl_nI, nle_T, nle_F, nlt_T, nlt_F, ↓reduceIte, or_true, true_or, or_false, false_or, and_true, true_and, and_false, false_and, not_true_eq_false, not_false_eq_true, or_self, and_self, true_implies, ite_self, h5, e3', pk_sub, bl, hx]
          · simp (disch := omega) only [bE, bO, bV, bK, nI_lit, nI_add, lt_T, lt_F, le_T, le_F, eq_T, eq_F, ltm_T, ltm_F, lem_T, lem_F, eqm_F, meq_F, cl_nI, nle_T, nle_F, nlt_T, nlt_F, ↓reduceIte, or_true, true_or, or_false, false_or, and_true, true_and, and_false, false_and, not_true_eq_false, not_false_eq_true, or_self, and_self, true_implies, ite_self, h5, e3', pk_sub, bl, hx]
        · rw [if_pos (Or.inr c3)]; exact fun z => absurd z (by decide)
        · rw [if_pos (Or.inr c3)]; exact fun _ => rf _ _
      · refine ⟨x', V, ?_, eW, fun _ => ⟨hx, h4, e3'⟩, ?_⟩
        · simp (disch := omega) only [bE, bO, bV, bK, nI_lit, nI_add, lt_T, lt_F, le_T, le_F, eq_T, eq_F, ltm_T, ltm_F, lem_T, lem_F, eqm_F, meq_F, cl_nI, nle_T, nle_F, nlt_T, nlt_F, ↓reduceIte, or_true, true_or, or_false, false_or, and_true, true_and, and_false, false_and, not_true_eq_false, not_false_eq_true, or_self, and_self, true_implies, ite_self, h5, e3', pk_sub, bl, hx]
        · rw [if_neg (fun z => z.elim (fun z => c2 z) (fun z => c3 z))]; exact fun z => absurd rfl z
theorem rn_f {a b : Int32} {w : Mem} (h : ¬ w.1 27 2 0 = 0) : f5_readNumber a b w = some (0, w) := by
  unfold f5_readNumber
  rw [if_neg h]
