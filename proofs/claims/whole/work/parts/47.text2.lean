/-- the reference's reader -/
def MP (tx : Nat → Nat) (L p : Nat) (u : Mem) : Prop := (L ≤ 200 ∧ p ≤ L) ∧ u.1 32 14 0 = nI L ∧ u.1 32 16 0 = nI p ∧ ∀ i, i < L → tx i < 256 ∧ u.1 32 13 i = nI (tx i)
def EM (l : Nat) (u u' : Mem) : Prop := (∀ d, d ≠ 32 → u'.1 d = u.1 d) ∧ (∀ k, k < l ∨ 18 < k → u'.1 32 k = u.1 32 k) ∧ u'.2 = u.2
theorem EM.lo {l m : Nat} {u v : Mem} (h : EM l u v) (hl : m ≤ l) : EM m u v := ⟨h.1, fun k hk => h.2.1 k (by omega), h.2.2⟩
theorem EM.tr {l : Nat} {u v w : Mem} (h : EM l u v) (h' : EM l v w) : EM l u w := ⟨fun d hd => (h'.1 d hd).trans (h.1 d hd), fun k hk => (h'.2.1 k hk).trans (h.2.1 k hk), h'.2.2.trans h.2.2⟩
theorem EM.sI {l : Nat} {u : Mem} {k i : Nat} {x : Int32} (h : l ≤ k) (h2 : k ≤ 18) : EM l u (sI u 32 k i x) := ⟨fun d hd => ob_sI hd, fun j hj => ky_sI (by omega), rfl⟩
theorem MP.at {tx : Nat → Nat} {L p q : Nat} {u : Mem} (h : MP tx L p u) (hq : q ≤ L) : MP tx L q (sI u 32 16 0 (nI q)) := by
  obtain ⟨⟨h1, h2⟩, h3, h4, h5⟩ := h
  exact ⟨⟨h1, hq⟩, by rw [ky_sI (by omega)]; exact h3, by rw [kx_sI, upd_s], fun i hi => by rw [ky_sI (by omega)]; exact h5 i hi⟩
theorem MP.k {tx : Nat → Nat} {L p k i : Nat} {x : Int32} {u : Mem} (h : MP tx L p u) (hk : k ≠ 13 ∧ k ≠ 14 ∧ k ≠ 16) : MP tx L p (sI u 32 k i x) := by
  obtain ⟨⟨h1, h2⟩, h3, h4, h5⟩ := h
  exact ⟨⟨h1, h2⟩, by rw [ky_sI (by omega)]; exact h3, by rw [ky_sI (by omega)]; exact h4, fun i hi => by rw [ky_sI (by omega)]; exact h5 i hi⟩
theorem MP.id {tx : Nat → Nat} {L p : Nat} {u : Mem} (h : MP tx L p u) : sI u 32 16 0 (nI p) = u := by
  rw [sI_sA]
  refine sA_x ?_
  funext i
  by_cases hi : i = 0
  · subst hi; rw [upd_s]; exact h.2.2.1
  · rw [upd_n hi]
def mlt (tx : Nat → Nat) (L p : Nat) : Int32 := if p < L then nI (tx p) else -nI 1
theorem he38 {tx : Nat → Nat} {L p : Nat} {u : Mem} (h : MP tx L p u) : f8_here_38 u = some (mlt tx L p, u) := by
  obtain ⟨⟨h1, h2⟩, h3, h4, h5⟩ := h
  unfold f8_here_38 mlt
  by_cases hp : p < L
  · have c := (h5 p hp).2
    simp (disch := omega) only [bE, bO, bV, bK, nI_lit, nI_add, lt_T, lt_F, le_T, le_F, eq_T, eq_F, ltm_T, ltm_F, lem_T, lem_F, eqm_F, meq_F, cl_nI, nle_T, nle_F, nlt_T, nlt_F, ↓reduceIte, or_true, true_or, or_false, false_or, and_true, true_and, and_false, false_and, not_true_eq_false, not_false_eq_true, or_self, and_self, true_implies, ite_self, h3, h4, c, hp]
  · simp (disch := omega) only [bE, bO, bV, bK, nI_lit, nI_add, lt_T, lt_F, le_T, le_F, eq_T, eq_F, ltm_T, ltm_F, lem_T, lem_F, eqm_F, meq_F, cl_nI, nle_T, nle_F, nlt_T, nlt_F, ↓reduceIte, or_true, true_or, or_false, false_or, and_true, true_and, and_false, false_and, not_true_eq_false, not_false_eq_true, or_self, and_self, true_implies, ite_self, h3, h4, hp]
theorem he0 {tx : Nat → Nat} {L : Nat} : ∀ k p n u, MP tx L p u → p + k = L → k < n → f8_here_0 n u = some (mlt tx L (sb tx k p), sI u 32 16 0 (nI (sb tx k p))) := by
  intro k
  induction k with
  | zero =>
    intro p n u h hp hn
    obtain ⟨n, rfl⟩ : ∃ m, n = m + 1 := ⟨n - 1, by omega⟩
    have hL := h.1
    rw [f8_here_0, sb, h.id]
    simp (disch := omega) only [bE, bO, bV, bK, nI_lit, nI_add, lt_T, lt_F, le_T, le_F, eq_T, eq_F, ltm_T, ltm_F, lem_T, lem_F, eqm_F, meq_F, cl_nI, nle_T, nle_F, nlt_T, nlt_F, ↓reduceIte, or_true, true_or, or_false, false_or, and_true, true_and, and_false, false_and, not_true_eq_false, not_false_eq_true, or_self, and_self, true_implies, ite_self, h.2.1, h.2.2.1]
    exact he38 h
  | succ k ih =>
    intro p n u h hp hn
    obtain ⟨n, rfl⟩ : ∃ m, n = m + 1 := ⟨n - 1, by omega⟩
    have hL := h.1
    obtain ⟨c1, c2⟩ := h.2.2.2 p (by omega)
    have h3 := h.2.1
    have h4 := h.2.2.1
    rw [f8_here_0, sb]
    by_cases hz : tx p = 32
    · have i1 := ih (p + 1) n _ (h.at (q := p + 1) (by omega)) (by omega) (by omega)
      rw [sI_sI] at i1
      rw [if_pos hz]
      simp (disch := omega) only [bE, bO, bV, bK, nI_lit, nI_add, lt_T, lt_F, le_T, le_F, eq_T, eq_F, ltm_T, ltm_F, lem_T, lem_F, eqm_F, meq_F, cl_nI, nle_T, nle_F, nlt_T, nlt_F, ↓reduceIte, or_true, true_or, or_false, false_or, and_true, true_and, and_false, false_and, not_true_eq_false, not_false_eq_true, or_self, and_self, true_implies, ite_self, h3, h4, c2, hz]
      exact i1
    · rw [if_neg hz, h.id]
      simp (disch := omega) only [bE, bO, bV, bK, nI_lit, nI_add, lt_T, lt_F, le_T, le_F, eq_T, eq_F, ltm_T, ltm_F, lem_T, lem_F, eqm_F, meq_F, cl_nI, nle_T, nle_F, nlt_T, nlt_F, ↓reduceIte, or_true, true_or, or_false, false_or, and_true, true_and, and_false, false_and, not_true_eq_false, not_false_eq_true, or_self, and_self, true_implies, ite_self, h3, h4, c2]
      exact he38 h
theorem he_ok {tx : Nat → Nat} {L p : Nat} {u : Mem} (h : MP tx L p u) : f8_here u = some (mlt tx L (n1 tx L p), sI u 32 16 0 (nI (n1 tx L p))) := he0 (L - p) p 100000 u h (by have := h.1; omega) (by have := h.1; omega)
theorem in_fig {c : Nat} (hc : c < 256) (u : Mem) : f8_in (nI c).toInt64 48 57 u = some (if 48 ≤ c ∧ c ≤ 57 then nI 1 else nI 0, u) := by
  rw [show (48 : Int64) = Int32.toInt64 48 from rfl, show (57 : Int64) = Int32.toInt64 57 from rfl, in_i]
  by_cases h : 48 ≤ c ∧ c ≤ 57
  · rw [if_pos h, if_pos ⟨show (48 : Int32) ≤ nI c from nI_le (a := 48) h.1 (by omega), show nI c ≤ 57 from nI_le (b := 57) h.2 (by omega)⟩]; rfl
  · rw [if_neg h, if_neg (fun z => h ⟨(nI_leI (a := 48) (by omega) (by omega)).mp z.1, (nI_leI (b := 57) (by omega) (by omega)).mp z.2⟩)]; rfl
theorem tn42 {tx : Nat → Nat} {L p1 : Nat} {a b : Int32} : ∀ k p n u m, MP tx L p u → p + k = L → p1 ≤ p → k < n → (∀ j, p1 ≤ j → j < p → 48 ≤ tx j ∧ tx j ≤ 57) → u.1 32 17 0 = nI m → m ≤ 200000 → (p - p1 ≤ 3 → m = vl tx p1 (p - p1)) → ∃ m' u', f8_takeNumber_42 a b n u = f8_takeNumber_129 a b u' ∧ EM 16 u u' ∧ u'.1 32 18 = u.1 32 18 ∧ MP tx L (fgs tx k p) u' ∧ u'.1 32 17 0 = nI m' ∧ m' ≤ 200000 ∧ (fgs tx k p - p1 ≤ 3 → m' = vl tx p1 (fgs tx k p - p1)) := by
  intro k
  induction k with
  | zero =>
    intro p n u m h hp hp1 hn hd hm hm2 hv
    obtain ⟨n, rfl⟩ : ∃ m, n = m + 1 := ⟨n - 1, by omega⟩
    have hL := h.1
    refine ⟨m, u, ?_, ⟨fun _ _ => rfl, fun _ _ => rfl, rfl⟩, rfl, h, hm, hm2, hv⟩
    rw [f8_takeNumber_42]
    simp (disch := omega) only [bE, bO, bV, bK, nI_lit, nI_add, lt_T, lt_F, le_T, le_F, eq_T, eq_F, ltm_T, ltm_F, lem_T, lem_F, eqm_F, meq_F, cl_nI, nle_T, nle_F, nlt_T, nlt_F, ↓reduceIte, or_true, true_or, or_false, false_or, and_true, true_and, and_false, false_and, not_true_eq_false, not_false_eq_true, or_self, and_self, true_implies, ite_self, h.2.1, h.2.2.1]
  | succ k ih =>
    intro p n u m h hp hp1 hn hd hm hm2 hv
    obtain ⟨n, rfl⟩ : ∃ m, n = m + 1 := ⟨n - 1, by omega⟩
    have hL := h.1
    obtain ⟨c1, c2⟩ := h.2.2.2 p (by omega)
    have h3 := h.2.1
    have h4 := h.2.2.1
    have hi := in_fig c1 u
    rw [f8_takeNumber_42, fgs]
    by_cases hz : 48 ≤ tx p ∧ tx p ≤ 57
    · rw [if_pos hz] at hi ⊢
      have hd' : ∀ j, p1 ≤ j → j < p + 1 → 48 ≤ tx j ∧ tx j ≤ 57 := fun j h1 h2 => by
        by_cases e : j = p
        · subst e; exact hz
        · exact hd j h1 (by omega)
      have ee : p + 1 - p1 = p - p1 + 1 := by omega
      by_cases h6 : m ≤ 10000
      · have hr := (h.k (k := 17) (i := 0) (x := nI (10 * m + tx p - 48)) (by omega)).at (q := p + 1) (by omega)
        obtain ⟨m', u', i1, i2, i3, i4, i5, i6, i7⟩ := ih (p + 1) n _ (10 * m + tx p - 48) hr (by omega) (by omega) (by omega) hd' (by rw [ky_sI (by omega), kx_sI, upd_s]) (by omega) (fun z => by rw [ee, vl, show p1 + (p - p1) = p by omega, ← hv (by omega)]; omega)
        refine ⟨m', u', ?_, ((EM.sI (by omega) (by omega)).tr (EM.sI (by omega) (by omega))).tr i2, i3.trans (by rw [ky_sI (by omega), ky_sI (by omega)]), i4, i5, i6, i7⟩
        simp (disch := omega) only [bE, bO, bV, bK, nI_lit, nI_add, lt_T, lt_F, le_T, le_F, eq_T, eq_F, ltm_T, ltm_F, lem_T, lem_F, eqm_F, meq_F, cl_nI, nle_T, nle_F, nlt_T, nlt_F, ↓reduceIte, or_true, true_or, or_false, false_or, and_true, true_and, and_false, false_and, not_true_eq_false, not_false_eq_true, or_self, and_self, true_implies, ite_self, ob_sI, ky_sI, kx_sI, ob_sA, ky_sA, kx_sA, upd_s, upd_n, rd_sI3, rd_sA3, rd_sI2, rd_sA2, rd_sL1, rd_sR1, h3, h4, c2, hi, hm, pk_mul, pk_sub]
        exact i1
      · have hr := (h.k (k := 17) (i := 0) (x := nI m) (by omega)).at (q := p + 1) (by omega)
        obtain ⟨m', u', i1, i2, i3, i4, i5, i6, i7⟩ := ih (p + 1) n _ m hr (by omega) (by omega) (by omega) hd' (by rw [ky_sI (by omega), kx_sI, upd_s]) (by omega) (fun z => by
          have e1 := hv (by omega)
          have e2 : vl tx p1 (p - p1) < 10 ^ (p - p1) := vl_le _ (by omega) (fun j hj => (hd (p1 + j) (by omega) (by omega)).2)
          have e3 : 10 ^ (p - p1) ≤ 10 ^ 3 := Nat.pow_le_pow_right (by omega) (by omega)
          omega)
        refine ⟨m', u', ?_, ((EM.sI (by omega) (by omega)).tr (EM.sI (by omega) (by omega))).tr i2, i3.trans (by rw [ky_sI (by omega), ky_sI (by omega)]), i4, i5, i6, i7⟩
        simp (disch := omega) only [bE, bO, bV, bK, nI_lit, nI_add, lt_T, lt_F, le_T, le_F, eq_T, eq_F, ltm_T, ltm_F, lem_T, lem_F, eqm_F, meq_F, cl_nI, nle_T, nle_F, nlt_T, nlt_F, ↓reduceIte, or_true, true_or, or_false, false_or, and_true, true_and, and_false, false_and, not_true_eq_false, not_false_eq_true, or_self, and_self, true_implies, ite_self, ob_sI, ky_sI, kx_sI, ob_sA, ky_sA, kx_sA, upd_s, upd_n, rd_sI3, rd_sA3, rd_sI2, rd_sA2, rd_sL1, rd_sR1, h3, h4, c2, hi, hm]
        exact i1
    · rw [if_neg hz] at hi ⊢
      refine ⟨m, u, ?_, ⟨fun _ _ => rfl, fun _ _ => rfl, rfl⟩, rfl, h, hm, hm2, hv⟩
      simp (disch := omega) only [bE, bO, bV, bK, nI_lit, nI_add, lt_T, lt_F, le_T, le_F, eq_T, eq_F, ltm_T, ltm_F, lem_T, lem_F, eqm_F, meq_F, cl_nI, nle_T, nle_F, nlt_T, nlt_F, ↓reduceIte, or_true, true_or, or_false, false_or, and_true, true_and, and_false, false_and, not_true_eq_false, not_false_eq_true, or_self, and_self, true_implies, ite_self, h3, h4, c2, hi]
theorem tn_ok {tx : Nat → Nat} {L p lo hi : Nat} {u : Mem} (h : MP tx L p u) (hlo : lo < 1000) (hhi : hi < 1000) : ∃ u', f8_takeNumber (nI lo) (nI hi) u = some (nI (nb tx L p lo hi), u') ∧ EM 15 u u' ∧ (nb tx L p lo hi = 0 → MP tx L (n2 tx L p) u' ∧ u'.1 32 17 0 = nI (nvl tx L p) ∧ u'.1 32 18 0 = nI (n1 tx L p) ∧ EM 16 u u') ∧ (nb tx L p lo hi ≠ 0 → u'.1 32 15 0 = nI (n1 tx L p)) := by
  have hL := h.1
  have hn := n_le (tx := tx) hL.2
  have s1 := he_ok h
  have h1 := h.at (q := n1 tx L p) (by omega)
  have h16 := h1.2.2.1
  have hf : ∀ (V : Mem) (c q : Nat), f8_fails (nI c) (nI q) V = some (nI c, sI V 32 15 0 (nI q)) := by
    intro V c q
    unfold f8_fails
    simp only [bE]
  unfold f8_takeNumber
  rw [s1]
  by_cases c0 : n1 tx L p < L ∧ 48 ≤ tx (n1 tx L p) ∧ tx (n1 tx L p) ≤ 57
  · obtain ⟨c1, c2⟩ := h1.2.2.2 _ c0.1
    have em : mlt tx L (n1 tx L p) = nI (tx (n1 tx L p)) := if_pos c0.1
    have hi1 := in_fig c1 (sI u 32 16 0 (nI (n1 tx L p)))
    rw [if_pos c0.2] at hi1
    have hne : ¬ n2 tx L p = n1 tx L p := by
      have e : n2 tx L p = fgs tx (L - n1 tx L p) (n1 tx L p) := rfl
      rw [show L - n1 tx L p = (L - n1 tx L p - 1) + 1 by omega, fgs, if_pos c0.2] at e
      have := fgs_le tx (L - n1 tx L p - 1) (n1 tx L p + 1)
      omega
    obtain ⟨W, hW⟩ : ∃ W, W = sI (sI (sI u 32 16 0 (nI (n1 tx L p))) 32 18 0 (nI (n1 tx L p))) 32 17 0 (nI 0) := ⟨_, rfl⟩
    have h2 : MP tx L (n1 tx L p) W := by
      rw [hW]; exact (h1.k (by omega)).k (by omega)
    obtain ⟨m', u', i1, i2, i3, i4, i5, i6, i7⟩ := tn42 (p1 := n1 tx L p) (a := nI lo) (b := nI hi) (L - n1 tx L p) (n1 tx L p) 100000 W 0 h2 (by omega) (by omega) (by omega) (fun j j1 j2 => by omega) (by rw [hW, kx_sI, upd_s]) (by omega) (fun _ => by rw [Nat.sub_self]; rfl)
    have e2 : fgs tx (L - n1 tx L p) (n1 tx L p) = n2 tx L p := rfl
    rw [e2] at i4 i7
    have eu : EM 16 u u' := by
      refine EM.tr (v := W) ?_ i2
      rw [hW]
      exact ((EM.sI (by omega) (by omega)).tr (EM.sI (by omega) (by omega))).tr (EM.sI (by omega) (by omega))
    have e18 : u'.1 32 18 0 = nI (n1 tx L p) := by rw [i3, hW, ky_sI (by omega), kx_sI, upd_s]
    have e0 : (bndO (some (mlt tx L (n1 tx L p), sI u 32 16 0 (nI (n1 tx L p)))) fun r2 w1 => bndO (f8_in r2.toInt64 48 57 w1) fun r4 w3 => if r4 = 0 then bndO (f8_fails 1 (w3.1 32 16 0) w3) fun r9 w8 => some (r9, w8) else bnd (sI w3 32 18 0 (w3.1 32 16 0)) fun w6 => bnd (sI w6 32 17 0 0) fun w7 => f8_takeNumber_42 (nI lo) (nI hi) 100000 w7) = f8_takeNumber_129 (nI lo) (nI hi) u' := by
      rw [← i1, bO, em, hi1, bO, if_neg (by decide)]
      simp only [bE]
      rw [h16, hW]; rfl
    rw [e0]
    have h16' := i4.2.2.1
    unfold f8_takeNumber_129 f8_takeNumber_157 nb
    simp only [if_neg hne]
    by_cases c2 : 3 < n2 tx L p - n1 tx L p
    · refine ⟨sI u' 32 15 0 (nI (n1 tx L p)), ?_, (eu.lo (by omega)).tr (EM.sI (by omega) (by omega)), ?_, ?_⟩
      · rw [if_pos (Or.inl c2)]
        simp (disch := omega) only [bE, bO, bV, bK, nI_lit, nI_add, lt_T, lt_F, le_T, le_F, eq_T, eq_F, ltm_T, ltm_F, lem_T, lem_F, eqm_F, meq_F, cl_nI, nle_T, nle_F, nlt_T, nlt_F, ↓reduceIte, or_true, true_or, or_false, false_or, and_true, true_and, and_false, false_and, not_true_eq_false, not_false_eq_true, or_self, and_self, true_implies, ite_self, h16', e18, pk_sub, hf]
      · rw [if_pos (Or.inl c2)]; exact fun z => absurd z (by decide)
      · intro _; rw [kx_sI, upd_s]
    · have hx : m' = nvl tx L p := i7 (by omega)
      have hl := nvl_lt (tx := tx) (L := L) (p := p) (by omega)
      have hin := in_i (u'.1 32 17 0) (nI lo) (nI hi) u'
      rw [i5, hx] at hin
      by_cases c3 : nvl tx L p < lo ∨ hi < nvl tx L p
      · rw [if_neg (show ¬ (nI lo ≤ nI (nvl tx L p) ∧ nI (nvl tx L p) ≤ nI hi) from fun z => by
          have z1 := (nI_leI (by omega) (by omega)).mp z.1
          have z2 := (nI_leI (by omega) (by omega)).mp z.2
          omega)] at hin
        refine ⟨sI u' 32 15 0 (nI (n1 tx L p)), ?_, (eu.lo (by omega)).tr (EM.sI (by omega) (by omega)), ?_, ?_⟩
        · rw [if_pos (Or.inr c3), i5, hx, hin]
          simp (disch := omega) only [bE, bO, bV, bK, nI_lit, nI_add, lt_T, lt_F, le_T, le_F, eq_T, eq_F, ltm_T, ltm_F, lem_T, lem_F, eqm_F, meq_F, cl_nI, nle_T, nle_F, nlt_T, nlt_F, ↓reduceIte, or_true, true_or, or_false, false_or, and_true, true_and, and_false, false_and, not_true_eq_false, not_false_eq_true, or_self, and_self, true_implies, ite_self, h16', e18, pk_sub, hf]
        · rw [if_pos (Or.inr c3)]; exact fun z => absurd z (by decide)
        · intro _; rw [kx_sI, upd_s]
      · rw [if_pos (show nI lo ≤ nI (nvl tx L p) ∧ nI (nvl tx L p) ≤ nI hi from ⟨nI_le (by omega) (by omega), nI_le (by omega) (by omega)⟩)] at hin
        have hnn : ¬ (3 < n2 tx L p - n1 tx L p ∨ nvl tx L p < lo ∨ hi < nvl tx L p) := fun z => z.elim (fun z => c2 z) (fun z => c3 z)
        refine ⟨u', ?_, eu.lo (by omega), fun _ => ⟨i4, by rw [i5, hx], e18, eu⟩, ?_⟩
        · rw [if_neg hnn, i5, hx, hin]
          simp (disch := omega) only [bE, bO, bV, bK, nI_lit, nI_add, lt_T, lt_F, le_T, le_F, eq_T, eq_F, ltm_T, ltm_F, lem_T, lem_F, eqm_F, meq_F, cl_nI, nle_T, nle_F, nlt_T, nlt_F, ↓reduceIte, or_true, true_or, or_false, false_or, and_true, true_and, and_false, false_and, not_true_eq_false, not_false_eq_true, or_self, and_self, true_implies, ite_self, h16', e18, pk_sub]
        · rw [if_neg hnn]; exact fun z => absurd rfl z
  · have hz : n2 tx L p = n1 tx L p := by
      show fgs tx (L - n1 tx L p) (n1 tx L p) = n1 tx L p
      by_cases c1 : n1 tx L p < L
      · rw [show L - n1 tx L p = (L - n1 tx L p - 1) + 1 by omega, fgs, if_neg (fun z => c0 ⟨c1, z⟩)]
      · rw [show L - n1 tx L p = 0 by omega, fgs]
    have hin : f8_in (mlt tx L (n1 tx L p)).toInt64 48 57 (sI u 32 16 0 (nI (n1 tx L p))) = some (nI 0, sI u 32 16 0 (nI (n1 tx L p))) := by
      by_cases c1 : n1 tx L p < L
      · rw [mlt, if_pos c1, in_fig (h1.2.2.2 _ c1).1, if_neg (fun z => c0 ⟨c1, z⟩)]
      · rw [mlt, if_neg c1]
        exact in_F1 _ (by decide)
    refine ⟨sI (sI u 32 16 0 (nI (n1 tx L p))) 32 15 0 (nI (n1 tx L p)), ?_, (EM.sI (by omega) (by omega)).tr (EM.sI (by omega) (by omega)), ?_, ?_⟩
    · unfold nb
      rw [if_pos hz, bO, hin, bO, if_pos (show nI 0 = (0 : Int32) from rfl), h16, show (1 : Int32) = nI 1 from rfl, hf, bO]
    · unfold nb; rw [if_pos hz]; exact fun z => absurd z (by decide)
    · intro _; rw [kx_sI, upd_s]
