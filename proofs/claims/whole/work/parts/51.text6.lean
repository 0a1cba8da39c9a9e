/-! the text: what was read, the end of a clause -/
def DS (e nv K Y I F Fo : Nat) (ro pe ob fe fs fg : Nat → Nat) (w : Mem) : Prop :=
  (nv ≤ 8 ∧ K ≤ 9 ∧ Y ≤ 30 ∧ I ≤ 9 ∧ F ≤ 8 ∧ Fo ≤ 8 ∧ (K = 0 → nv = 0 ∧ F = 0 ∧ Fo = 0)) ∧
  (w.1 e 0 0 = (if K = 0 then nI 0 else nI 1) ∧ w.1 e 1 0 = nI K ∧ w.1 e 2 0 = nI Y ∧ w.1 e 3 0 = nI I ∧ w.1 e 4 0 = nI nv ∧ w.1 e 5 0 = nI F ∧ w.1 e 6 0 = nI Fo) ∧
  (∀ v, v < nv → (ro v ≤ 9 ∧ 1 ≤ pe v ∧ pe v ≤ 9 ∧ fe v ≤ 100) ∧ w.1 e 7 v = nI (ro v) ∧ w.1 e 8 v = nI (pe v) ∧ w.1 e 9 v = nI (ob v) ∧ w.1 e 10 v = nI (fe v)) ∧
  (∀ i, i < F → fs i < 1000) ∧ (∀ i, i < Fo → fg i < 1000) ∧
  (∀ c j, c < 16 → j < 64 → (w.2.1 e 11 c).toBitVec.getLsbD j = anyB F fs (64 * c + j)) ∧ (∀ c j, c < 16 → j < 64 → (w.2.1 e 12 c).toBitVec.getLsbD j = anyB Fo fg (64 * c + j))
def MRd (nv K Y I F Fo : Nat) (ro pe ob fe fs fg : Nat → Nat) (u : Mem) : Prop :=
  (u.1 32 19 0 = nI K ∧ u.1 32 19 1 = nI Y ∧ u.1 32 19 2 = nI I) ∧ u.1 32 20 0 = nI nv ∧ (∀ v, v < nv → u.1 32 21 v = nI (ro v) ∧ u.1 32 22 v = nI (pe v) ∧ u.1 32 23 v = nI (ob v) ∧ u.1 32 24 v = nI (fe v)) ∧
  u.1 32 25 0 = nI F ∧ (∀ i, i < F → u.1 32 26 i = nI (fs i)) ∧ u.1 32 27 0 = nI Fo ∧ (∀ i, i < Fo → u.1 32 28 i = nI (fg i))
section Txt
variable {e nv K Y I F Fo : Nat} {ro pe ob fe fs fg : Nat → Nat} {w w' u u' : Mem} {tx : Nat → Nat} {L p q : Nat}
theorem DS.o (h : DS e nv K Y I F Fo ro pe ob fe fs fg w) (he : e = 24 ∨ e = 25) (hw : E27 w w') : DS e nv K Y I F Fo ro pe ob fe fs fg w' := by
  unfold DS at h ⊢
  rw [hw.1 e (by omega), hw.2]
  exact h
theorem MRd.o (h : MRd nv K Y I F Fo ro pe ob fe fs fg u) (hu : EM 16 u u') : MRd nv K Y I F Fo ro pe ob fe fs fg u' := by
  unfold MRd at h ⊢
  rw [hu.2.1 19 (by omega), hu.2.1 20 (by omega), hu.2.1 21 (by omega), hu.2.1 22 (by omega), hu.2.1 23 (by omega), hu.2.1 24 (by omega), hu.2.1 25 (by omega), hu.2.1 26 (by omega), hu.2.1 27 (by omega), hu.2.1 28 (by omega)]
  exact h
def mEnd (u : Mem) : Option (Int32 × Mem) := bndO (f8_here u) fun r5 w4 => if r5 = 59 then some (nI 0, sI w4 32 16 0 ((w4.1 32 16 0) + 1)) else (bndO (f8_fails 1 (w4.1 32 16 0) w4) fun r9 w8 => some (r9, w8))
theorem end2 (h : RS tx L p w) (m : MP tx L p u) :
    FT L e w u (f5_readClause_138 e w) (mEnd u) ∨ (∃ q w' u', p < q ∧ f5_readClause_138 e w = some w' ∧ E27 w w' ∧ RS tx L q w' ∧ mEnd u = some (nI 0, u') ∧ EM 16 u u' ∧ MP tx L q u') := by
  have hL := h.1
  have hn := n_le (tx := tx) hL.2
  have s1 := sk_ok h
  have h1 := h.at (q := n1 tx L p) (by omega)
  have l1 := lh_ok h1
  have s2 := he_ok m
  have m1 := m.at (q := n1 tx L p) (by omega)
  have t0 : w.1 27 2 0 = 0 := h.2.2.2.2.1
  have t1 := h1.2.2.2.2.1
  have t4 := h1.2.2.2.1
  have t5 := m1.2.2.1
  unfold f5_readClause_138 f5_readEnd mEnd
  rw [if_pos t0, s1, bV, show sb tx (L - p) p = n1 tx L p from rfl, l1, bO, s2, bO]
  by_cases hz : n1 tx L p < L ∧ tx (n1 tx L p) = 59
  · right
    have e1 : ltr tx L (n1 tx L p) = 59 := by rw [ltr, if_pos hz.1, hz.2]
    have e2 : mlt tx L (n1 tx L p) = nI 59 := by rw [mlt, if_pos hz.1, hz.2]
    rw [e1, e2, if_pos (show nI 59 = (59 : Int32) from rfl), if_pos (show nI 59 = (59 : Int32) from rfl)]
    simp only [bE]
    rw [bV, t4, t5, show nI (n1 tx L p) + 1 = nI (n1 tx L p + 1) from nI_add _ 1, sI_sI, sI_sI]
    exact ⟨n1 tx L p + 1, _, _, by omega, rfl, ⟨fun d hd => ob_sI hd, rfl⟩, h.at (by omega), rfl, EM.sI (by omega) (by omega), m.at (by omega)⟩
  · left
    have e1 : ¬ nI (ltr tx L (n1 tx L p)) = 59 := by
      rw [ltr]
      by_cases hc : n1 tx L p < L
      · rw [if_pos hc]
        have hc2 := (h1.2.2.2.2.2 _ hc).1
        exact fun z => hz ⟨hc, (nI_eq (b := 59) (by omega) (by omega)).mp z⟩
      · rw [if_neg hc]; decide
    have e2 : ¬ mlt tx L (n1 tx L p) = 59 := by
      rw [mlt]
      by_cases hc : n1 tx L p < L
      · rw [if_pos hc]
        have hc2 := (h1.2.2.2.2.2 _ hc).1
        exact fun z => hz ⟨hc, (nI_eq (b := 59) (by omega) (by omega)).mp z⟩
      · rw [if_neg hc]; decide
    rw [if_neg e1, if_neg e2, t4, t5]
    unfold f5_blame f8_fails
    rw [if_pos (show (sI w 27 4 0 (nI (n1 tx L p))).1 27 2 0 = 0 from t1)]
    simp only [bE]
    rw [bV, bO]
    refine ⟨1, n1 tx L p, _, _, ⟨by omega, by omega, by omega⟩, rfl, (EC.s27.tr EC.s27).tr EC.s27, ⟨by rw [ky_sI (by omega), kx_sI, upd_s]; rfl, by rw [kx_sI, upd_s]⟩, rfl, (EN.s (by omega) (by omega)).tr (EN.s (by omega) (by omega)), by rw [kx_sI, upd_s]⟩
/-- behind a clause's numbers, on the reference's side -/
theorem tail_ok (x : Int32) (u : Mem) : f8_takeClause_233 x (nI 0) u = mEnd (sI (sI u 32 25 0 (u.1 32 25 0 + if x = 2 then 1 else 0)) 32 27 0 (u.1 32 27 0 + if x = 3 then 1 else 0)) := by
  have e0 : ∀ V : Mem, (bndO (f8_here V) fun r5 w4 => if r5 = 59 then some (nI 0, sI w4 32 16 0 ((w4.1 32 16 0) + 1)) else (bndO (f8_fails 1 (w4.1 32 16 0) w4) fun r9 w8 => some (r9, w8))) = mEnd V := fun V => rfl
  unfold f8_takeClause_233 f8_takeClause_250 f8_takeClause_269
  simp only [bE, if_pos (show nI 0 = (0 : Int32) from rfl), e0]
  by_cases h2 : x = 2
  · have h3 : ¬ x = 3 := by rw [h2]; decide
    rw [if_pos h2, if_neg h3, if_pos h2, if_neg h3, ky_sI (by omega)]
  · by_cases h3 : x = 3
    · rw [if_neg h2, if_pos h3, if_neg h2, if_pos h3, ky_sI (by omega)]
    · rw [if_neg h2, if_neg h3, if_neg h2, if_neg h3, ky_sI (by omega)]
theorem tail_f (x : Int32) {c : Nat} (hc : 0 < c) (hc2 : c < 5) (u : Mem) : ∃ u', f8_takeClause_233 x (nI c) u = some (nI c, u') ∧ EN 15 u u' ∧ u'.1 32 15 = u.1 32 15 := by
  have c4 := nI_nz hc hc2
  unfold f8_takeClause_233 f8_takeClause_250 f8_takeClause_269
  simp only [bE, if_neg c4]
  by_cases h2 : x = 2
  · have h3 : ¬ x = 3 := by rw [h2]; decide
    rw [if_pos h2, if_neg h3]
    exact ⟨_, rfl, ((EN.s (by omega) (by omega)).tr (EN.s (by omega) (by omega))).tr (EN.s (by omega) (by omega)), by rw [ky_sI (by omega), ky_sI (by omega), ky_sI (by omega)]⟩
  · rw [if_neg h2]
    by_cases h3 : x = 3
    · rw [if_pos h3]
      exact ⟨_, rfl, ((EN.s (by omega) (by omega)).tr (EN.s (by omega) (by omega))).tr (EN.s (by omega) (by omega)), by rw [ky_sI (by omega), ky_sI (by omega), ky_sI (by omega)]⟩
    · rw [if_neg h3]
      exact ⟨_, rfl, ((EN.s (by omega) (by omega)).tr (EN.s (by omega) (by omega))).tr (EN.s (by omega) (by omega)), by rw [ky_sI (by omega), ky_sI (by omega), ky_sI (by omega)]⟩
theorem end_f {c q : Nat} (hc : 0 < c) (hc2 : c < 5) (h : RF c q w) : f5_readClause_138 e w = some w := by
  unfold f5_readClause_138 f5_readEnd
  rw [if_neg (h.n hc hc2), bV]
theorem sI_c (w : Mem) (d k i d' k' i' : Nat) (x y : Int32) (h : ¬ (d = d' ∧ k = k')) : sI (sI w d k i x) d' k' i' y = sI (sI w d' k' i' y) d k i x := by
  apply Prod.ext
  · funext a b c
    simp only [sI]
    by_cases h1 : a = d ∧ b = k ∧ c = i
    · rw [if_pos h1]
      have h2 : ¬ (a = d' ∧ b = k' ∧ c = i') := fun z => h ⟨h1.1.symm.trans z.1, h1.2.1.symm.trans z.2.1⟩
      rw [if_neg h2, if_pos h1]
    · rw [if_neg h1, if_neg h1]
  · rfl
end Txt
