/-! the text: a feast, a fog -/
theorem anyB_iff {n : Nat} {f : Nat → Nat} {t : Nat} : anyB n f t = true ↔ ∃ i, i < n ∧ f i = t := by
  induction n with
  | zero => exact ⟨fun h => (by cases h), fun ⟨i, h, _⟩ => (by omega)⟩
  | succ n ih =>
    rw [anyB, Bool.or_eq_true, ih, decide_eq_true_iff]
    constructor
    · rintro (⟨i, h1, h2⟩ | h)
      · exact ⟨i, by omega, h2⟩
      · exact ⟨n, by omega, h⟩
    · rintro ⟨i, h1, h2⟩
      by_cases hz : i = n
      · subst hz; exact Or.inr h2
      · exact Or.inl ⟨i, by omega, h2⟩
theorem anyB_uN {F t x : Nat} {fs : Nat → Nat} : anyB (F + 1) (uN fs F t) x = (anyB F fs x || decide (t = x)) := by
  have e : ∀ n, n ≤ F → anyB n (uN fs F t) x = anyB n fs x := by
    intro n
    induction n with
    | zero => intro _; rfl
    | succ n ih => intro hn; rw [anyB, anyB, ih (by omega), uN_n (by omega)]
  rw [anyB, e F (by omega), uN_s]
theorem jl_one : ∀ s, s < 64 → ∀ j, j < 64 → (jlshl 1 (nI s)).toBitVec.getLsbD j = decide (s = j) := by decide +kernel
theorem jl_or {x : Int64} {s j : Nat} (hs : s < 64) (hj : j < 64) : (x ||| jlshl 1 (nI s)).toBitVec.getLsbD j = (x.toBitVec.getLsbD j || decide (s = j)) := by
  rw [Int64.toBitVec_or, BitVec.getLsbD_or, jl_one s hs j hj]
theorem mark_ok {e k t : Nat} {w : Mem} (ht : t < 1000) : f6_mark e k 16 (nI t) w = some (sL w e k (t / 64) (w.2.1 e k (t / 64) ||| jlshl 1 (nI (t % 64)))) := by
  unfold f6_mark
  rw [nI_lit 6, jshr6 (by omega)]
  simp only [bE]
  rw [if_neg (nI_pos (by omega)), if_neg (show ¬ Int32.ofNat 16 ≤ nI (t / 64) from nI_ge (by omega) (by omega)), if_neg (nI_in (by omega) (by omega)), if_neg (nI_in (by omega) (by omega)), nI_clamp (by omega), nI_lit 63, jand63 (by omega)]
theorem mark_bits {e k t F : Nat} {fs : Nat → Nat} {w : Mem} (ht : t < 1000) (hb : ∀ c j, c < 16 → j < 64 → (w.2.1 e k c).toBitVec.getLsbD j = anyB F fs (64 * c + j)) : ∀ c j, c < 16 → j < 64 → ((sL w e k (t / 64) (w.2.1 e k (t / 64) ||| jlshl 1 (nI (t % 64)))).2.1 e k c).toBitVec.getLsbD j = anyB (F + 1) (uN fs F t) (64 * c + j) := by
  intro c j hc hj
  rw [anyB_uN, rd_sL2, if_pos ⟨rfl, rfl⟩]
  unfold vp_updL
  by_cases hz : c = t / 64
  · subst hz
    rw [if_pos rfl, jl_or (by omega) hj, hb _ _ hc hj]
    congr 1
    by_cases h2 : t % 64 = j
    · rw [decide_eq_true h2, decide_eq_true (show t = 64 * (t / 64) + j by omega)]
    · rw [decide_eq_false h2, decide_eq_false (show ¬ t = 64 * (t / 64) + j by omega)]
  · rw [if_neg hz, hb _ _ hc hj, decide_eq_false (show ¬ t = 64 * c + j by omega), Bool.or_false]
theorem td14 {F t z km : Nat} {fs : Nat → Nat} (hF : F ≤ 8) (ht : t < 1000) (hfs : ∀ i, i < F → fs i < 1000) : ∀ j k n U, k + j = F → j < n → (∀ i, i < F → U.1 32 km i = nI (fs i)) → U.1 32 17 0 = nI t → U.1 32 18 0 = nI z → ((∃ i, k ≤ i ∧ i < F ∧ fs i = t) ∧ f8_takeDay_14 32 km 8 (nI F) n (nI 0) (nI k) U = some (nI 4, sI U 32 15 0 (nI z))) ∨ ((∀ i, k ≤ i → i < F → fs i ≠ t) ∧ f8_takeDay_14 32 km 8 (nI F) n (nI 0) (nI k) U = some (nI 0, U)) := by
  intro j
  induction j with
  | zero =>
    intro k n U hk hn h1 h2 h3
    obtain ⟨n, rfl⟩ : ∃ m, n = m + 1 := ⟨n - 1, by omega⟩
    right
    refine ⟨fun i hi hi2 => by omega, ?_⟩
    rw [f8_takeDay_14]
    simp (disch := omega) only [bE, bO, bV, bK, nI_lit, nI_add, lt_T, lt_F, le_T, le_F, eq_T, eq_F, ltm_T, ltm_F, lem_T, lem_F, eqm_F, meq_F, cl_nI, nle_T, nle_F, nlt_T, nlt_F, ↓reduceIte, or_true, true_or, or_false, false_or, and_true, true_and, and_false, false_and, not_true_eq_false, not_false_eq_true, or_self, and_self, true_implies, ite_self]
  | succ j ih =>
    intro k n U hk hn h1 h2 h3
    obtain ⟨n, rfl⟩ : ∃ m, n = m + 1 := ⟨n - 1, by omega⟩
    have e1 := h1 k (by omega)
    have e2 := hfs k (by omega)
    rw [f8_takeDay_14]
    by_cases hz : fs k = t
    · left
      refine ⟨⟨k, by omega, by omega, hz⟩, ?_⟩
      obtain ⟨n, rfl⟩ : ∃ m, n = m + 1 := ⟨n - 1, by omega⟩
      unfold f8_fails
      simp (disch := omega) only [bE, bO, bV, bK, nI_lit, nI_add, lt_T, lt_F, le_T, le_F, eq_T, eq_F, ltm_T, ltm_F, lem_T, lem_F, eqm_F, meq_F, cl_nI, nle_T, nle_F, nlt_T, nlt_F, ↓reduceIte, or_true, true_or, or_false, false_or, and_true, true_and, and_false, false_and, not_true_eq_false, not_false_eq_true, or_self, and_self, true_implies, ite_self, e1, h2, h3, hz]
      rw [f8_takeDay_14]
      by_cases hl : F ≤ k + 1
      · simp (disch := omega) only [bE, bO, bV, bK, nI_lit, nI_add, lt_T, lt_F, le_T, le_F, eq_T, eq_F, ltm_T, ltm_F, lem_T, lem_F, eqm_F, meq_F, cl_nI, nle_T, nle_F, nlt_T, nlt_F, ↓reduceIte, or_true, true_or, or_false, false_or, and_true, true_and, and_false, false_and, not_true_eq_false, not_false_eq_true, or_self, and_self, true_implies, ite_self]
      · simp (disch := omega) only [bE, bO, bV, bK, nI_lit, nI_add, lt_T, lt_F, le_T, le_F, eq_T, eq_F, ltm_T, ltm_F, lem_T, lem_F, eqm_F, meq_F, cl_nI, nle_T, nle_F, nlt_T, nlt_F, ↓reduceIte, or_true, true_or, or_false, false_or, and_true, true_and, and_false, false_and, not_true_eq_false, not_false_eq_true, or_self, and_self, true_implies, ite_self]
    · rcases ih (k + 1) n U (by omega) (by omega) h1 h2 h3 with ⟨⟨i, a1, a2, a3⟩, a4⟩ | ⟨a1, a2⟩
      · left
        refine ⟨⟨i, by omega, a2, a3⟩, ?_⟩
        simp (disch := omega) only [bE, bO, bV, bK, nI_lit, nI_add, lt_T, lt_F, le_T, le_F, eq_T, eq_F, ltm_T, ltm_F, lem_T, lem_F, eqm_F, meq_F, cl_nI, nle_T, nle_F, nlt_T, nlt_F, ↓reduceIte, or_true, true_or, or_false, false_or, and_true, true_and, and_false, false_and, not_true_eq_false, not_false_eq_true, or_self, and_self, true_implies, ite_self, e1, h2]
        exact a4
      · right
        refine ⟨fun i hi hi2 => ?_, ?_⟩
        · by_cases hq : i = k
          · subst hq; exact hz
          · exact a1 i (by omega) hi2
        · simp (disch := omega) only [bE, bO, bV, bK, nI_lit, nI_add, lt_T, lt_F, le_T, le_F, eq_T, eq_F, ltm_T, ltm_F, lem_T, lem_F, eqm_F, meq_F, cl_nI, nle_T, nle_F, nlt_T, nlt_F, ↓reduceIte, or_true, true_or, or_false, false_or, and_true, true_and, and_false, false_and, not_true_eq_false, not_false_eq_true, or_self, and_self, true_implies, ite_self, e1, h2]
          exact a2
theorem day2 {tx : Nat → Nat} {L p e kk km F : Nat} {fs : Nat → Nat} {w u : Mem} (he : e = 24 ∨ e = 25) (hkm : km = 26 ∨ km = 28) (hF : F < 8) (h : RS tx L p w) (m : MP tx L p u) (hfs : ∀ i, i < F → fs i < 1000) (hb : ∀ c j, c < 16 → j < 64 → (w.2.1 e kk c).toBitVec.getLsbD j = anyB F fs (64 * c + j)) (hm : ∀ i, i < F → u.1 32 km i = nI (fs i)) :
    (∃ c q w' u', (0 < c ∧ c < 5 ∧ q ≤ L) ∧ f5_readMarkedDay e kk 16 w = some (nI 0, w') ∧ EC e w w' ∧ RF c q w' ∧ f8_takeDay 32 km 8 (nI F) u = some (nI c, u') ∧ EN 15 u u' ∧ u'.1 32 15 0 = nI q) ∨
    (∃ t q w' u', (t < 1000 ∧ p < q) ∧ f5_readMarkedDay e kk 16 w = some (nI 1, w') ∧ RS tx L q w' ∧ EC e w w' ∧ w'.1 e = w.1 e ∧ (∀ k, k ≠ kk → w'.2.1 e k = w.2.1 e k) ∧ (∀ c j, c < 16 → j < 64 → (w'.2.1 e kk c).toBitVec.getLsbD j = anyB (F + 1) (uN fs F t) (64 * c + j)) ∧ f8_takeDay 32 km 8 (nI F) u = some (nI 0, u') ∧ MP tx L q u' ∧ EN 16 u u' ∧ (∀ k, k ≠ km → 18 < k → u'.1 32 k = u.1 32 k) ∧ u'.1 32 km = upd (u.1 32 km) F (nI t)) := by
  unfold f5_readMarkedDay f8_takeDay
  rcases num2 (lo := 0) (hi := 999) h m (by omega) (by omega) with ⟨c, q, r, w1, u1, ⟨c1, c2, c3⟩, d1, d2, d3, e1, e2, e3⟩ | ⟨t, z, q1, w1, u1, ⟨y1, y2, y3, y4, y5⟩, d1, d2, d3, d4, e1, e2, e3, e4, e5⟩
  · left
    refine ⟨c, q, w1, sI u1 32 km F (u1.1 32 17 0), ⟨c1, c2, c3⟩, ?_, EC.o d2, d3, ?_, ?_, ?_⟩
    · rw [show f5_readNumber 0 999 w = _ from d1, bO, if_neg (d3.n c1 c2)]
      rfl
    · rw [show f8_into 32 km 8 (nI F) 0 999 u = _ from into_ok (k := km) (N := 8) hF (by omega) e1, bO, f8_takeDay_14]
      have c4 := nI_nz c1 c2
      by_cases hl : F ≤ 0
      · rw [if_pos (show nI F ≤ 0 from nI_le (b := 0) hl (by omega))]
      · rw [if_neg (show ¬ nI F ≤ 0 from nI_ge (a := 0) (by omega) (by omega)), if_neg c4]
    · exact (EN.o e2).tr (EN.s (by omega) (by omega))
    · rw [ky_sI (by omega)]; exact e3
  have k1 := mk_ok (d := e) (k := kk) (n := F) (f := fs) (t := t) (w := w1) hfs (by rw [d2.2]; exact hb) (by omega)
  have i0 : f8_into 32 km 8 (nI F) 0 999 u = some (nI 0, sI u1 32 km F (nI t)) := by
    have q := into_ok (k := km) (N := 8) hF (by omega) e1
    rw [e4] at q
    exact q
  have mm := e3.k (k := km) (i := F) (x := nI t) (by omega)
  have hU : ∀ i, i < F → (sI u1 32 km F (nI t)).1 32 km i = nI (fs i) := fun i hi => by
    rw [kx_sI, upd_n (by omega), e2.2.1 km (by omega)]; exact hm i hi
  have t0 : w1.1 27 2 0 = 0 := d3.2.2.2.2.1
  rcases td14 (km := km) (z := z) (t := t) (by omega) (by omega) hfs F 0 100000 (sI u1 32 km F (nI t)) (by omega) (by omega) hU (by rw [ky_sI (by omega)]; exact e4) (by rw [ky_sI (by omega)]; exact e5) with ⟨⟨i, a1, a2, a3⟩, a4⟩ | ⟨a1, a2⟩
  · left
    rw [if_pos (anyB_iff.mpr ⟨i, a2, a3⟩)] at k1
    refine ⟨4, z, sI (sI w1 27 2 0 (nI 4)) 27 4 0 (nI z), sI (sI u1 32 km F (nI t)) 32 15 0 (nI z), ⟨by omega, by omega, y5⟩, ?_, ((EC.o d2).tr EC.s27).tr EC.s27, ⟨by rw [ky_sI (by omega), kx_sI, upd_s], by rw [kx_sI, upd_s]⟩, ?_, ?_, ?_⟩
    · rw [show f5_readNumber 0 999 w = _ from d1, bO, if_pos t0, k1, bO, if_neg (by decide), d4]
      unfold f5_blame
      rw [if_pos t0]
      simp only [bE]
      rw [bV]; rfl
    · rw [i0, bO]; exact a4
    · exact ((EN.o (e2.lo (by omega))).tr (EN.s (by omega) (by omega))).tr (EN.s (by omega) (by omega))
    · rw [kx_sI, upd_s]
  · right
    have ha : anyB F fs t = false := by
      cases hq : anyB F fs t with
      | false => rfl
      | true =>
        obtain ⟨i, b1, b2⟩ := anyB_iff.mp hq
        exact absurd b2 (a1 i (by omega) b1)
    rw [ha, if_neg (by decide)] at k1
    refine ⟨t, q1, _, sI u1 32 km F (nI t), ⟨by omega, y3⟩, ?_, ?_, ?_, ?_, ?_, mark_bits (k := kk) (w := w1) (by omega) (by rw [d2.2]; exact hb), ?_, mm, ?_, ?_, ?_⟩
    · rw [show f5_readNumber 0 999 w = _ from d1, bO, if_pos t0, k1, bO, if_pos (show nI 0 = (0 : Int32) from rfl), mark_ok (by omega), bV]
      rfl
    · obtain ⟨⟨h1, h2⟩, h3, h4, h5, h6, h7⟩ := d3
      exact ⟨⟨h1, h2⟩, h3, h4, h5, h6, h7⟩
    · refine (EC.o d2).tr ⟨fun _ _ _ => rfl, fun d hd => ?_, rfl⟩
      funext k
      rw [rd_sL2, if_neg (fun z => hd z.1)]
    · exact d2.1 e (by omega)
    · intro k hk
      rw [rd_sL2, if_neg (fun z => hk z.2), d2.2]
    · rw [i0, bO]; exact a2
    · exact (EN.o e2).tr (EN.s (by omega) (by omega))
    · intro k hk hk2
      rw [ky_sI (by omega)]
      exact e2.2.1 k (by omega)
    · rw [kx_sI, e2.2.1 km (by omega)]
