/-! calls that look at a day -/
/-- who goes by calendars, who comes -/
def gm (nv : Nat) (ro pe : Nat → Nat) (o : Nat → Int32) (st F Fo : Nat) (fs fg : Nat → Nat) (t : Nat) : Nat := msk (cb ro pe o st (anyB F fs t) (anyB Fo fg t) t) nv
def cm (nv Y : Nat) (ro pe : Nat → Nat) (o la : Nat → Int32) (st F Fo : Nat) (fs fg : Nat → Nat) (t : Nat) : Nat := yml (gm nv ro pe o st F Fo fs fg t) (fun v => yb (la v) Y t) nv
section Rock
variable {nv K Y I F Fo : Nat} {ro pe fe fs fg : Nat → Nat} {g : Nat} {w : Mem} {M : Nat → Nat → Int32}
theorem gm_lt (hnv : nv ≤ 8) (o : Nat → Int32) (st t : Nat) : gm nv ro pe o st F Fo fs fg t < 256 ∧ gm nv ro pe o st F Fo fs fg t < 2 ^ nv := ⟨msk_lt _ nv hnv, msk_lt2 _ nv hnv⟩
theorem cm_lt (hnv : nv ≤ 8) (o la : Nat → Int32) (st t : Nat) : cm nv Y ro pe o la st F Fo fs fg t < 256 ∧ cm nv Y ro pe o la st F Fo fs fg t < 2 ^ nv := by
  have h := gm_lt (ro := ro) (pe := pe) (F := F) (Fo := Fo) (fs := fs) (fg := fg) hnv o st t
  have h2 := yml_le (gm nv ro pe o st F Fo fs fg t) (fun v => yb (la v) Y t) nv
  unfold cm
  omega
theorem com_ok (h : RG nv K Y I F Fo ro pe fe fs fg (w.1 g) (w.2.1 g) M) {d st t : Nat} (e : w.1 d 4 0 = nI st) (hs : st < 256) (hl : ∀ v, v < 8 → w.1 d 1 v = -1 ∨ ∃ l, l < 1000000000 ∧ w.1 d 1 v = nI l) (ht : t < 1000000000) : f1_comers d g (nI t) w = some (nI (cm nv Y ro pe (w.1 d 0) (w.1 d 1) st F Fo fs fg t), w) := by
  have hnv := h.1.1
  have c := cal_ok h e hs (t := t) (by omega)
  have hg := gm_lt (ro := ro) (pe := pe) (F := F) (Fo := Fo) (fs := fs) (fg := fg) hnv (w.1 d 0) st t
  have L := com_loop (g := g) (Y := Y) (m := gm nv ro pe (w.1 d 0) st F Fo fs fg t) (y := fun v => yb (w.1 d 1 v) Y t) (fun _ _ => rfl) hg.1 h.2.2.2.1.1 h.1.2.2.1 hl ht 8 0 100000 (by omega) (by omega)
  unfold f1_comers
  rw [c]
  simp only [bO]
  refine L.trans ?_
  have e2 := yml_ext (y := fun v => yb (w.1 d 1 v) Y t) hg.2 hg.1 (8 - nv) (by omega)
  rw [show nv + (8 - nv) = 8 by omega] at e2
  rw [e2]; rfl
theorem mgo_ok (h : RG nv K Y I F Fo ro pe fe fs fg (w.1 g) (w.2.1 g) (w.1 32)) {st t : Nat} (e : w.1 32 11 8 = nI st) (hs : st < 256) (ht : t < 2147483648) {o : Nat → Int32} (ho : ∀ v, v < nv → o v = w.1 32 11 (10 + v)) : f8_goers (nI t) w = some (nI (gm nv ro pe o st F Fo fs fg t), w) := by
  have hnv := h.1.1
  exact goers_loop h e hs ht (b := cb ro pe o st (anyB F fs t) (anyB Fo fg t) t) (fun v hv => by unfold cb; rw [ho v hv]) nv 0 100000 (by omega) (by omega)
theorem mcom_ok (h : RG nv K Y I F Fo ro pe fe fs fg (w.1 g) (w.2.1 g) (w.1 32)) {st t : Nat} (e : w.1 32 11 8 = nI st) (hs : st < 256) (hl : ∀ v, v < 8 → w.1 32 11 (18 + v) = -1 ∨ ∃ l, l < 1000000000 ∧ w.1 32 11 (18 + v) = nI l) (ht : t < 1000000000) {o la : Nat → Int32} (ho : ∀ v, v < nv → o v = w.1 32 11 (10 + v)) (hla : ∀ v, v < nv → la v = w.1 32 11 (18 + v)) : f8_comers (nI t) w = some (nI (cm nv Y ro pe o la st F Fo fs fg t), w) := by
  have hnv := h.1.1
  have c := mgo_ok h e hs (t := t) (by omega) ho
  have hg := gm_lt (ro := ro) (pe := pe) (F := F) (Fo := Fo) (fs := fs) (fg := fg) hnv o st t
  have L := mcom_loop (nv := nv) (Y := Y) (w := w) (m := gm nv ro pe o st F Fo fs fg t) (y := fun v => yb (la v) Y t) hnv h.2.2.2.2.2.1.2 (fun v hv => by rw [hla v hv]) hg.1 h.2.2.2.1.2 h.1.2.2.1 hl ht nv 0 100000 (by omega) (by omega)
  unfold f8_comers
  rw [c]
  simp only [bO, nI_lit]
  rw [show yml (gm nv ro pe o st F Fo fs fg t) (fun v => yb (la v) Y t) 0 = gm nv ro pe o st F Fo fs fg t from rfl] at L
  unfold cm
  exact L
end Rock
/-- what RD says, by parts -/
theorem RD.la {qh nv B : Nat} {D : Nat → Nat → Int32} {N : Nat → Int32} (h : RD qh nv B D N) (hB : B < 1000000000) : ∀ v, v < 8 → (v < nv → D 1 v = N (18 + v)) ∧ (D 1 v = -1 ∨ ∃ l, l < 1000000000 ∧ D 1 v = nI l) ∧ (N (18 + v) = -1 ∨ ∃ l, l < 1000000000 ∧ N (18 + v) = nI l) := by
  obtain ⟨dy, wt, fa, em, sh, st, h1, -, -, -, -, -, -, -, -, -, -, -, -, -, h2, -⟩ := h
  intro v hv
  obtain ⟨h3, h4, h5⟩ := h2 v hv
  refine ⟨h3, h4.imp id (fun ⟨l, z1, z2⟩ => ⟨l, by omega, z2⟩), h5.imp id (fun ⟨l, z1, z2⟩ => ⟨l, by omega, z2⟩)⟩
theorem q_comes {n : Nat} {w : Mem} (hn : n < 100) (h : Rel n w) (a : Int32) : Same n w (f7_comes a) (f8_comes a) := by
  obtain ⟨⟨g, nv, K, Y, I, F, Fo, ro, pe, fe, fs, fg, h1, h2, h3, h4, h5, h6, h7⟩, hT, hF, hN⟩ := id h
  rcases ix3 a 10000 (by omega) with ha | ha | ⟨t, ht, rfl⟩
  · exact ⟨_, w, w, by unfold f7_comes; rw [if_pos (show a < 0 from ha)], by unfold f8_comes; rw [in_neg w ha]; rfl, h.next (by omega)⟩
  · exact ⟨_, w, w, by unfold f7_comes; rw [if_neg (big_nlt (by omega) ha), if_neg (show ¬ a ≤ 9999 from big_nle (j := 9999) (by omega) ha (by omega))], by unfold f8_comes; rw [in_big (m := 9999) (b := 9999) w rfl (by omega) ha]; rfl, h.next (by omega)⟩
  · have hla := h4.la (by omega)
    obtain ⟨dy, wt, fa, em, sh, st, -, -, -, -, -, hst, -, -, -, -, -, b6, -, b12, -, -⟩ := h4
    have c1 := com_ok h3 (d := 0) (t := t) b6.1 hst (fun v hv => (hla v hv).2.1) (by omega)
    have c2 := mcom_ok h3 (t := t) b6.2 hst (fun v hv => (hla v hv).2.2) (by omega) b12 (fun v hv => (hla v (by have := h3.1.1; omega)).1 hv)
    refine ⟨nI (cm nv Y ro pe (w.1 0 0) (w.1 0 1) st F Fo fs fg t), w, w, ?_, ?_, h.next (by omega)⟩
    · unfold f7_comes
      rw [if_neg (nI_pos (by omega)), if_pos (show nI t ≤ 9999 from nI_le (b := 9999) (by omega) (by omega)), rk_g h1 h2.1]
      simp only [bK]
      rw [c1]; rfl
    · unfold f8_comes
      rw [in0_T (m := 9999) (b := 9999) w rfl (by omega) (by omega)]
      simp only [bO]
      rw [if_neg (by decide), c2, bO]
theorem clr_0 : ∀ m, m < 256 → ∀ v, v < 8 → ((nI (clr m v) = 0) ↔ clr m v = 0) := by decide +kernel
theorem q_smoke {n : Nat} {w : Mem} (hn : n < 100) (h : Rel n w) (a b : Int32) : Same n w (f7_smoke a b) (f8_smoke a b) := by
  obtain ⟨⟨g, nv, K, Y, I, F, Fo, ro, pe, fe, fs, fg, h1, h2, h3, h4, h5, h6, h7⟩, hT, hF, hN⟩ := id h
  have hnv := h3.1.1
  have a4 := h3.2.2.2.2.2.1
  have key : (a < nI 0 ∨ nI nv ≤ a) → Same n w (f7_smoke a b) (f8_smoke a b) := fun hz => by
    refine ⟨-1000000001, w, w, ?_, ?_, h.next (by omega)⟩
    · unfold f7_smoke
      rw [rk_g h1 h2.1]; simp only [bK]; rw [has_F a4.1 hnv hz]; rfl
    · unfold f8_smoke
      rw [vil_F a4.2 hnv hz]; rfl
  rcases ix3 a nv (by omega) with hz | hz | ⟨v, hv, rfl⟩
  · exact key (Or.inl hz)
  · exact key (Or.inr hz)
  · have e1 := has_T a4.1 hnv hv
    have e2 := vil_T a4.2 hnv hv
    rcases ix3 b 1000 (by omega) with ha | ha | ⟨t, ht, rfl⟩
    · refine ⟨-1000000002, w, w, ?_, ?_, h.next (by omega)⟩
      · unfold f7_smoke
        rw [rk_g h1 h2.1]; simp only [bK]; rw [e1]
        simp only [bO]
        rw [if_neg (by decide), if_pos (show b < 0 from ha)]
      · unfold f8_smoke
        rw [e2]
        simp only [bO]
        rw [if_neg (by decide), in_neg w ha]; rfl
    · refine ⟨-1000000002, w, w, ?_, ?_, h.next (by omega)⟩
      · unfold f7_smoke
        rw [rk_g h1 h2.1]; simp only [bK]; rw [e1]
        simp only [bO]
        rw [if_neg (by decide), if_neg (big_nlt (by omega) ha), if_neg (show ¬ b ≤ 999 from big_nle (j := 999) (by omega) ha (by omega))]
      · unfold f8_smoke
        rw [e2]
        simp only [bO]
        rw [if_neg (by decide), in_big (m := 999) (b := 999) w rfl (by omega) ha]; rfl
    · obtain ⟨dy, wt, fa, em, sh, st, -, -, -, -, -, hst, -, -, -, -, -, b6, -, b12, -, -⟩ := h4
      have c1 := cal_ok h3 (d := 0) (t := t) b6.1 hst (by omega)
      have c2 := mgo_ok h3 (t := t) b6.2 hst (by omega) b12
      unfold gm at c2
      have c3 := bt_clr _ (msk_lt (cb ro pe (w.1 0 0) st (anyB F fs t) (anyB Fo fg t) t) nv hnv) v (by omega)
      refine ⟨if nI (clr (msk (cb ro pe (w.1 0 0) st (anyB F fs t) (anyB Fo fg t) t) nv) v) = nI 0 then nI 1 else nI 0, w, w, ?_, ?_, h.next (by omega)⟩
      · unfold f7_smoke
        simp (disch := omega) only [bE, bO, bV, bK, nI_lit, nI_add, lt_T, lt_F, le_T, le_F, eq_T, eq_F, ltm_T, ltm_F, lem_T, lem_F, eqm_F, meq_F, cl_nI, nle_T, nle_F, nlt_T, nlt_F, ↓reduceIte, or_true, true_or, or_false, false_or, and_true, true_and, and_false, false_and, not_true_eq_false, not_false_eq_true, or_self, and_self, true_implies, ite_self, rk_g h1 h2.1, e1, c1, c3]
        split <;> rfl
      · unfold f8_smoke
        rw [e2]
        simp only [bO]
        rw [if_neg (by decide), in0_T (m := 999) (b := 999) w rfl (by omega) (by omega)]
        simp (disch := omega) only [bE, bO, bV, bK, nI_lit, nI_add, lt_T, lt_F, le_T, le_F, eq_T, eq_F, ltm_T, ltm_F, lem_T, lem_F, eqm_F, meq_F, cl_nI, nle_T, nle_F, nlt_T, nlt_F, ↓reduceIte, or_true, true_or, or_false, false_or, and_true, true_and, and_false, false_and, not_true_eq_false, not_false_eq_true, or_self, and_self, true_implies, ite_self, c2, c3]
        split <;> rfl

/-- the latest sixty days -/
theorem jr60 {t : Nat} (h : t < 2147483648) : jrem (nI t) 60 = nI (t % 60) := jr (d := 60) h (by omega) (by omega)
def late (dy t : Nat) : Prop := t < dy ∧ dy < t + 61
theorem lat_T {d dy t : Nat} {w : Mem} (e : w.1 d 6 0 = nI dy) (hd : dy < 1000000000) (h : late dy t) : f1_isLatest d (nI t) w = some (nI 1, w) := by
  unfold f1_isLatest
  unfold late at h
  rw [e, if_neg (nI_pos (by omega)), if_neg (nI_ge h.1 (by omega))]
  rw [if_neg]
  · rfl
  · intro z
    have z1 := Int32.lt_iff_toInt_lt.mp z
    rw [nI_lit, pk_sub_toInt (by omega) (by omega), nI_ti (by omega)] at z1
    have : ((OfNat.ofNat 60 : Nat) : Int) = 60 := rfl
    omega
theorem lat_F {d dy : Nat} {w : Mem} (e : w.1 d 6 0 = nI dy) (hd : dy < 1000000000) {a : Int32} (h : ∀ t, a = nI t → t < 2147483648 → ¬ late dy t) : f1_isLatest d a w = some (nI 0, w) := by
  unfold f1_isLatest
  rw [e]
  rcases ix3 a dy (by omega) with z | z | ⟨t, ht, rfl⟩
  · rw [if_pos (show a < 0 from z)]; rfl
  · rw [if_neg (big_nlt (by omega) z), if_pos z]; rfl
  · have h1 := h t rfl (by omega)
    unfold late at h1
    rw [if_neg (nI_pos (by omega)), if_neg (nI_ge ht (by omega)), if_pos]
    · rfl
    · rw [Int32.lt_iff_toInt_lt, nI_lit, pk_sub_toInt (by omega) (by omega), nI_ti (by omega)]
      have : ((OfNat.ofNat 60 : Nat) : Int) = 60 := rfl
      omega
theorem bon_T {d dy t : Nat} {w : Mem} (e : w.1 d 6 0 = nI dy) (hd : dy < 1000000000) (h : late dy t) : f1_blessedOn d (nI t) w = some (w.1 d 3 (t % 60), w) := by
  have h2 := h
  unfold late at h2
  unfold f1_blessedOn
  rw [jr60 (by omega), lat_T e hd h]
  simp (disch := omega) only [bE, bO, bV, bK, nI_lit, nI_add, lt_T, lt_F, le_T, le_F, eq_T, eq_F, ltm_T, ltm_F, lem_T, lem_F, eqm_F, meq_F, cl_nI, nle_T, nle_F, nlt_T, nlt_F, ↓reduceIte, or_true, true_or, or_false, false_or, and_true, true_and, and_false, false_and, not_true_eq_false, not_false_eq_true, or_self, and_self, true_implies, ite_self, if_true]
theorem bon_F {d dy : Nat} {w : Mem} (e : w.1 d 6 0 = nI dy) (hd : dy < 1000000000) {a : Int32} (h : ∀ t, a = nI t → t < 2147483648 → ¬ late dy t) : f1_blessedOn d a w = some (-1, w) := by
  unfold f1_blessedOn
  rw [lat_F e hd h]
  simp only [bE, bO]
  rw [if_pos (show nI 0 = 0 from rfl)]
theorem mbl_T {dy t : Nat} {w : Mem} (e : w.1 32 11 0 = nI dy) (hd : dy < 1000000000) (h : late dy t) : f8_blessed (nI t) w = some (w.1 32 11 (43 + t % 60), w) := by
  have h2 := h
  unfold late at h2
  unfold f8_blessed
  have e2 : (nI dy - 1).toInt64 = lN (dy - 1) := by
    rw [nI_lit, pk_sub (by omega), nI_l (by omega)]
  rw [e, in0_T w e2 (by omega) (by omega), jr60 (by omega)]
  simp only [bO]
  rw [if_neg (by decide), e, if_neg]
  · simp (disch := omega) only [bE, bO, bV, bK, nI_lit, nI_add, lt_T, lt_F, le_T, le_F, eq_T, eq_F, ltm_T, ltm_F, lem_T, lem_F, eqm_F, meq_F, cl_nI, nle_T, nle_F, nlt_T, nlt_F, ↓reduceIte, or_true, true_or, or_false, false_or, and_true, true_and, and_false, false_and, not_true_eq_false, not_false_eq_true, or_self, and_self, true_implies, ite_self, if_true]
  · intro z
    have z1 := Int32.lt_iff_toInt_lt.mp z
    rw [nI_lit, pk_sub_toInt (by omega) (by omega), nI_ti (by omega)] at z1
    have : ((OfNat.ofNat 60 : Nat) : Int) = 60 := rfl
    omega
theorem mbl_F {dy : Nat} {w : Mem} (e : w.1 32 11 0 = nI dy) (hd : dy < 1000000000) {a : Int32} (h : ∀ t, a = nI t → t < 2147483648 → ¬ late dy t) : f8_blessed a w = some (-1, w) := by
  unfold f8_blessed
  rw [e]
  rcases ix3 a dy (by omega) with z | z | ⟨t, ht, rfl⟩
  · rw [in_neg w z]; rfl
  · have : f8_in a.toInt64 0 (nI dy - 1).toInt64 w = some (0, w) := by
      apply in_F2
      have h2 := Int32.le_iff_toInt_le.mp z
      rw [nI_ti (by omega)] at h2
      rw [Int32.toInt_toInt64]
      rcases Nat.eq_zero_or_pos dy with h0 | h0
      · subst h0
        have : (nI 0 - 1).toInt = -1 := by decide
        omega
      · rw [nI_lit, pk_sub (by omega), nI_ti (by omega)]
        omega
    rw [this]; rfl
  · have h1 := h t rfl (by omega)
    unfold late at h1
    have e2 : (nI dy - 1).toInt64 = lN (dy - 1) := by
      rw [nI_lit, pk_sub (by omega), nI_l (by omega)]
    rw [in0_T w e2 (by omega) (by omega)]
    simp only [bO]
    rw [if_neg (by decide), e, if_pos]
    rw [Int32.lt_iff_toInt_lt, nI_lit, pk_sub_toInt (by omega) (by omega), nI_ti (by omega)]
    have : ((OfNat.ofNat 60 : Nat) : Int) = 60 := rfl
    omega
theorem q_blessed {n : Nat} {w : Mem} (hn : n < 100) (h : Rel n w) (a : Int32) : Same n w (f7_blessed a) (f8_blessed a) := by
  obtain ⟨⟨g, nv, K, Y, I, F, Fo, ro, pe, fe, fs, fg, h1, h2, h3, h4, h5, h6, h7⟩, hT, hF, hN⟩ := id h
  obtain ⟨dy, wt, fa, em, sh, st, k1, -, -, -, -, hst, b1, -, -, -, -, b6, -, b12, -, -, b15⟩ := h4
  by_cases hl : ∃ t, a = nI t ∧ t < 2147483648 ∧ late dy t
  · obtain ⟨t, rfl, ht, hl⟩ := hl
    have hl2 := hl
    unfold late at hl2
    refine ⟨w.1 32 11 (43 + t % 60), w, w, ?_, mbl_T b1.2 (by omega) hl, h.next (by omega)⟩
    unfold f7_blessed
    rw [bon_T b1.1 (by omega) hl, bO, b15 (t % 60) (by omega) (by omega) (by omega)]
  · have hl2 : ∀ t, a = nI t → t < 2147483648 → ¬ late dy t := fun t z1 z2 z3 => hl ⟨t, z1, z2, z3⟩
    refine ⟨-1, w, w, ?_, mbl_F b1.2 (by omega) hl2, h.next (by omega)⟩
    unfold f7_blessed
    rw [bon_F b1.1 (by omega) hl2, bO]
