/-! away -/
theorem nI_or {a b : Nat} (ha : a < 256) (hb : b < 256) : ∃ c, c < 256 ∧ nI a ||| nI b = nI c := by
  refine ⟨a ||| b, Nat.or_lt_two_pow (n := 8) ha hb, ?_⟩
  apply Int32.toBitVec_inj.mp
  rw [Int32.toBitVec_or]
  apply BitVec.eq_of_toNat_eq
  rw [BitVec.toNat_or]
  have e : ∀ n, n < 256 → (nI n).toBitVec.toNat = n := by decide +kernel
  rw [e a ha, e b hb, e _ (Nat.or_lt_two_pow (n := 8) ha hb)]
theorem RD.stay {qh nv B st' : Nat} {D : Nat → Nat → Int32} {N : Nat → Int32} (hnv : nv ≤ 8) (h : RD qh nv B D N) (hs : st' < 256) : RD qh nv B (uK D 4 (upd (D 4) 0 (nI st'))) (upd N 8 (nI st')) := by
  obtain ⟨dy, wt, fa, em, sh0, st, k1, k2, k3, k4, k5, k6, ⟨b1, c1⟩, ⟨b2, c2⟩, ⟨b3, c3⟩, ⟨b4, c4⟩, ⟨b5, c5⟩, ⟨b6, c6⟩, ⟨b7, b8, b9, b10, b11⟩, b12, b13, b14, b15⟩ := h
  refine ⟨dy, wt, fa, em, sh0, st', k1, k2, k3, k4, k5, hs, ?_, ?_, ?_, ?_, ?_, ?_, ?_, ?_, ?_, ?_, ?_⟩
  · simp (disch := omega) only [uK_n, upd_n, b1, c1, and_self]
  · simp (disch := omega) only [uK_n, upd_n, b2, c2, and_self]
  · simp (disch := omega) only [uK_n, upd_n, b3, c3, and_self]
  · simp (disch := omega) only [uK_n, upd_n, b4, c4, and_self]
  · simp (disch := omega) only [uK_n, upd_n, b5, c5, and_self]
  · simp (disch := omega) only [uK_s, upd_s, and_self]
  · simp (disch := omega) only [uK_s, uK_n, upd_s, upd_n]
    exact ⟨b7, b8, b9, b10, b11⟩
  · intro v hv
    simp (disch := omega) only [uK_n, upd_n]
    exact b12 v hv
  · intro v hv
    simp (disch := omega) only [uK_n, upd_n]
    exact b13 v hv
  · intro k hk
    simp (disch := omega) only [uK_n, upd_n]
    exact b14 k hk
  · intro q hq hq2
    simp (disch := omega) only [uK_n, upd_n]
    exact b15 q hq hq2
section Rock
variable {nv K Y I F Fo : Nat} {ro pe fe fs fg : Nat → Nat} {G : Nat → Nat → Int32} {GL : Nat → Nat → Int64} {M : Nat → Nat → Int32}
theorem mon_eq2 {N N' N'' : Nat → Int32} (h : Mon N N') (h' : Mon N' N'') (e : Eq2 N'' N) : Eq2 N' N := by
  obtain ⟨-, a, b, c, a', b', c', ⟨h1, h2, h3⟩, ⟨h4, h5, h6⟩, ⟨h7, h8, h9⟩, ⟨h10, h11, h12⟩⟩ := h
  obtain ⟨-, p, q, r, p', q', r', ⟨g1, g2, g3⟩, ⟨g4, g5, g6⟩, ⟨g7, g8, g9⟩, ⟨g10, g11, g12⟩⟩ := h'
  obtain ⟨e1, e3⟩ := e
  have i1 := (nI_eq (by omega) (by omega)).mp (h10.symm.trans g7)
  have i3 := (nI_eq (by omega) (by omega)).mp (h12.symm.trans g9)
  have i4 := (nI_eq (by omega) (by omega)).mp (g10.symm.trans (e1.trans h7))
  have i6 := (nI_eq (by omega) (by omega)).mp (g12.symm.trans (e3.trans h9))
  exact ⟨by rw [h10, h7, show a' = a by omega], by rw [h12, h9, show c' = c by omega]⟩
theorem mon_t2 {N N' : Nat → Int32} (h : Mon N N') : (N 4 < N' 4 ∨ ¬ N' 7 ≤ N 7) ↔ ¬ Eq2 N' N := by
  obtain ⟨-, a, b, c, a', b', c', ⟨h1, h2, h3⟩, ⟨h4, h5, h6⟩, ⟨h7, h8, h9⟩, ⟨h10, h11, h12⟩⟩ := h
  unfold Eq2
  rw [h7, h9, h10, h12, nI_ltI (by omega) (by omega), nI_leI (by omega) (by omega), nI_eq (by omega) (by omega), nI_eq (by omega) (by omega)]
  omega
theorem pe_loop {g B a m : Nat} {s : Int32} {D0 : Nat → Nat → Int32} {N0 : Nat → Int32} {Ds : Nat → Nat → Nat → Int32} {Ns : Nat → Nat → Int32} (ha : a ≤ 60) (hB : B + a < 900000) (h3 : ∀ k, k ≤ a → RD 0 nv (B + k) (Ds k) (Ns k)) (h4 : ∀ k, k < a → Day1 I G GL M (Ds k) (Ns k) (Ds (k + 1)) (Ns (k + 1))) (hI : G 3 0 = nI I) (hm : End a Ns m) (h0 : Ns 0 = N0) {w : Mem} (hw : CL g G GL w) (hD : w.1 0 = D0) (hDN : D0 9 0 = N0 4 ∧ D0 12 0 = N0 7) :
    ∀ (j k n : Nat), k + j = m → j < n → Eq2 (Ns k) N0 → ∃ T, f7_isPeaceful_26 s (nI a) n (nI k) (sO w 1 (Ds k)) = some (if Eq2 (Ns m) N0 then 1 else 0, sO w 1 T) := by
  obtain ⟨g1, g2, g3, g4⟩ := hw
  obtain ⟨m1, m2, m3⟩ := hm
  intro j
  induction j with
  | zero =>
    intro k n hk hn he
    obtain ⟨n, rfl⟩ : ∃ m, n = m + 1 := ⟨n - 1, by omega⟩
    obtain rfl : k = m := by omega
    refine ⟨Ds k, ?_⟩
    rw [f7_isPeaceful_26, if_pos he]
    rcases Nat.lt_or_ge k a with hz | hz
    · have e1 := (h3 k (by omega)).dn.1.trans (m2 hz)
      simp (disch := omega) only [bE, bO, bV, bK, nI_lit, nI_add, lt_T, lt_F, le_T, le_F, eq_T, eq_F, ltm_T, ltm_F, lem_T, lem_F, eqm_F, meq_F, cl_nI, nle_T, nle_F, nlt_T, nlt_F, ↓reduceIte, or_true, true_or, or_false, false_or, and_true, true_and, and_false, false_and, not_true_eq_false, not_false_eq_true, or_self, and_self, true_implies, ite_self, sO_s, e1]
    · simp (disch := omega) only [bE, bO, bV, bK, nI_lit, nI_add, lt_T, lt_F, le_T, le_F, eq_T, eq_F, ltm_T, ltm_F, lem_T, lem_F, eqm_F, meq_F, cl_nI, nle_T, nle_F, nlt_T, nlt_F, ↓reduceIte, or_true, true_or, or_false, false_or, and_true, true_and, and_false, false_and, not_true_eq_false, not_false_eq_true, or_self, and_self, true_implies, ite_self]
  | succ j ih =>
    intro k n hk hn he
    obtain ⟨n, rfl⟩ : ∃ m, n = m + 1 := ⟨n - 1, by omega⟩
    obtain ⟨s1, s2, s3⟩ := h4 k (by omega)
    have d1 := (h3 k (by omega)).dn
    have d2 := (h3 (k + 1) (by omega)).dn
    have z2 := s2 w 1 g (by omega) g3 g4
    have e1 := d1.1.trans (m3 k (by omega))
    have gg : (sO w 1 (Ds k)).1 g 3 0 = nI I := by rw [sO_n (by omega), g3]; exact hI
    have mm : Mon N0 (Ns (k + 1)) := by
      have y := tr_mon hB h3 h4 0 (k + 1) (by omega)
      rw [h0, Nat.zero_add] at y; exact y
    have mm2 : Mon (Ns (k + 1)) (Ns m) := by
      have y := tr_mon hB h3 h4 (k + 1) j (by omega)
      rw [show k + 1 + j = m by omega] at y; exact y
    have tt := mon_t2 mm
    have st : f7_isPeaceful_26 s (nI a) (n + 1) (nI k) (sO w 1 (Ds k)) = if N0 4 < Ns (k + 1) 4 then some (0, sO w 1 (Ds (k + 1))) else if Ns (k + 1) 7 ≤ N0 7 then f7_isPeaceful_26 s (nI a) n (nI (k + 1)) (sO w 1 (Ds (k + 1))) else some (0, sO w 1 (Ds (k + 1))) := by
      rw [f7_isPeaceful_26]
      simp (disch := omega) only [bE, bO, bV, bK, nI_lit, nI_add, lt_T, lt_F, le_T, le_F, eq_T, eq_F, ltm_T, ltm_F, lem_T, lem_F, eqm_F, meq_F, cl_nI, nle_T, nle_F, nlt_T, nlt_F, ↓reduceIte, or_true, true_or, or_false, false_or, and_true, true_and, and_false, false_and, not_true_eq_false, not_false_eq_true, or_self, and_self, true_implies, ite_self, sO_2, rk_g g1 g2, gg, z2, sO_s, sO_n, e1, hD, hDN.1, hDN.2, d2.2.2.2.1, d2.2.2.2.2.2]
    by_cases hz : Eq2 (Ns (k + 1)) N0
    · obtain ⟨T, hT⟩ := ih (k + 1) n (by omega) (by omega) hz
      have t2 : ¬ (N0 4 < Ns (k + 1) 4 ∨ ¬ Ns (k + 1) 7 ≤ N0 7) := fun z => (tt.mp z) hz
      refine ⟨T, ?_⟩
      rw [st, if_neg (fun z => t2 (Or.inl z)), if_pos (Decidable.byContradiction (fun z => t2 (Or.inr z)))]
      exact hT
    · refine ⟨Ds (k + 1), ?_⟩
      rw [st, if_neg (fun z => hz (mon_eq2 mm mm2 z))]
      rcases tt.mpr hz with z | z
      · rw [if_pos z]
      · rw [if_neg z, ite_self]
theorem aw_loop {g a m : Nat} {b s : Int32} {Ds : Nat → Nat → Nat → Int32} {Ns : Nat → Nat → Int32} (ha : a ≤ 60) (h4 : ∀ k, k < a → Day1 I G GL M (Ds k) (Ns k) (Ds (k + 1)) (Ns (k + 1))) (hJ : M 2 0 = nI I) (hm : End a Ns m) {w : Mem} (hw : ML g G GL M w) (rec : Int32 → Int32 → Mem → Option (Int32 × Mem)) :
    ∀ (j k n : Nat), k + j = m → j < n → f8_away_89 (nI a) rec n b s (nI k) (sA w 32 11 (Ns k)) = f8_away_118 (nI a) rec b s (sA w 32 11 (Ns m)) := by
  obtain ⟨x1, x2, x3, x4⟩ := hw
  obtain ⟨m1, m2, m3⟩ := hm
  have gg2 : w.1 32 2 0 = nI I := by rw [x4 2 (by omega)]; exact hJ
  intro j
  induction j with
  | zero =>
    intro k n hk hn
    obtain ⟨n, rfl⟩ : ∃ m, n = m + 1 := ⟨n - 1, by omega⟩
    obtain rfl : k = m := by omega
    rw [f8_away_89]
    rcases Nat.lt_or_ge k a with hz | hz
    · have e1 := m2 hz
      simp (disch := omega) only [bE, bO, bV, bK, nI_lit, nI_add, lt_T, lt_F, le_T, le_F, eq_T, eq_F, ltm_T, ltm_F, lem_T, lem_F, eqm_F, meq_F, cl_nI, nle_T, nle_F, nlt_T, nlt_F, ↓reduceIte, or_true, true_or, or_false, false_or, and_true, true_and, and_false, false_and, not_true_eq_false, not_false_eq_true, or_self, and_self, true_implies, ite_self, kx_sA, e1]
    · simp (disch := omega) only [bE, bO, bV, bK, nI_lit, nI_add, lt_T, lt_F, le_T, le_F, eq_T, eq_F, ltm_T, ltm_F, lem_T, lem_F, eqm_F, meq_F, cl_nI, nle_T, nle_F, nlt_T, nlt_F, ↓reduceIte, or_true, true_or, or_false, false_or, and_true, true_and, and_false, false_and, not_true_eq_false, not_false_eq_true, or_self, and_self, true_implies, ite_self]
  | succ j ih =>
    intro k n hk hn
    obtain ⟨n, rfl⟩ : ∃ m, n = m + 1 := ⟨n - 1, by omega⟩
    have z3 := (h4 k (by omega)).2.2 w g (by omega) x2 x3 x4
    have e1 := m3 k (by omega)
    rw [f8_away_89]
    simp (disch := omega) only [bE, bO, bV, bK, nI_lit, nI_add, lt_T, lt_F, le_T, le_F, eq_T, eq_F, ltm_T, ltm_F, lem_T, lem_F, eqm_F, meq_F, cl_nI, nle_T, nle_F, nlt_T, nlt_F, ↓reduceIte, or_true, true_or, or_false, false_or, and_true, true_and, and_false, false_and, not_true_eq_false, not_false_eq_true, or_self, and_self, true_implies, ite_self, kx_sA, ky_sA, gg2, e1, z3]
    exact ih (k + 1) n (by omega) (by omega)
/-- one set, tried on both sides -/
theorem one_away {g B a s : Nat} {w : Mem} {N0 : Nat → Int32} (ha : a ≤ 60) (hs : s < 256) (hB : B + a < 900000) (hR : RD 60 nv B (w.1 0) N0) (hG : RG nv K Y I F Fo ro pe fe fs fg G GL M) (hw : CL g G GL w) (hM : ML g G GL M w) :
    ∃ p : Bool, (∀ T, ∃ T', f7_isPeaceful (nI s) (nI a) (sO w 1 T) = some (if p then 1 else 0, sO w 1 T')) ∧ ∀ W b rec, ML g G GL M W → (∀ k, k < 103 → W.1 32 31 k = N0 k) → f8_away_70 (nI a) rec b (nI s) (sA W 32 11 N0) = rec (if p then nI s else b) (nI s + 1) (sA W 32 11 N0) := by
  have hnv := hG.1.1
  have d0 := hR.dn
  have hi := hG.1.2.2.2.1
  have hI := hG.2.2.2.2.1
  obtain ⟨st, hst, e1, e2⟩ : ∃ st : Nat, st < 256 ∧ w.1 0 4 0 = nI st ∧ N0 8 = nI st := by
    obtain ⟨dy, wt, fa, em, sh0, st, k1, k2, k3, k4, k5, k6, -, -, -, -, -, ⟨b6, c6⟩, -⟩ := hR
    exact ⟨st, k6, b6, c6⟩
  obtain ⟨sx, hsx, e3⟩ := nI_or hst hs
  have hgo : ∀ E, RD 0 nv B (uK (goT (w.1 0) E) 4 (upd (goT (w.1 0) E 4) 0 (nI sx))) (upd N0 8 (nI sx)) := fun E => (hR.go hnv (E := E)).stay hnv hsx
  obtain ⟨Ds, Ns, t1, t2, t3, t4⟩ := traj (hgo (w.1 1)) hG hi a hB
  obtain ⟨m, hm⟩ := end_ex t3
  have hN : Eq2 (Ns m) (upd N0 8 (nI sx)) ↔ Eq2 (Ns m) N0 := by
    unfold Eq2
    rw [upd_n (by omega), upd_n (by omega)]
  refine ⟨decide (Eq2 (Ns m) N0), fun T => ?_, fun W b rec hW hW2 => ?_⟩
  · obtain ⟨Ds', Ns', t1', t2', t3', t4'⟩ := traj (hgo T) hG hi a hB
    have hdet := tr_det t4' t4 (t2'.trans t2.symm) hM
    have hm' : End a Ns' m := ⟨hm.1, fun z => by rw [hdet m hm.1]; exact hm.2.1 z, fun u hu => by have := hm.1; rw [hdet u (by omega)]; exact hm.2.2 u hu⟩
    obtain ⟨T', hT'⟩ := pe_loop (s := nI s) ha hB t3' t4' hI.1 hm' t2' hw rfl ⟨by rw [upd_n (by omega)]; exact d0.2.2.2.1, by rw [upd_n (by omega)]; exact d0.2.2.2.2.2⟩ m 0 100000 (by omega) (by have := hm.1; omega) (by rw [t2']; exact ⟨rfl, rfl⟩)
    refine ⟨T', ?_⟩
    unfold f7_isPeaceful
    have z := go_ok (w := sO w 1 T) (d0 := 1) (d1 := 0) (by omega) (by rw [sO_n (by omega), d0.1]; exact d0.2.1)
    rw [sO_n (by omega), sO_s, sO_sO] at z
    have z4 : goT (w.1 0) T 4 0 = nI st := by
      unfold goT
      simp (disch := omega) only [uK_n, uK_s, upd_s, e1]
    rw [z, bV, bE, sI_sO, sO_s, z4, e3, ← t1']
    refine hT'.trans ?_
    rw [hdet m hm.1]
    by_cases hz : Eq2 (Ns m) N0
    · rw [if_pos (hN.mpr hz), decide_eq_true hz, if_pos rfl]
    · rw [if_neg (fun z => hz (hN.mp z)), decide_eq_false hz]; rfl
  · have y := aw_loop (b := b) (s := nI s) ha t4 hI.2 hm hW rec m 0 100000 (by omega) (by have := hm.1; omega)
    rw [t2] at y
    unfold f8_away_70
    rw [bE, sI_A, ky_sA (by omega), hW2 8 (by omega), e2, e3]
    refine y.trans ?_
    have mm := tr_mon hB t3 t4 0 m (by have := hm.1; omega)
    rw [t2, Nat.zero_add] at mm
    have mm1 : ∀ k, 103 ≤ k → Ns m k = N0 k := fun k hk => (mm.1 k hk).trans (upd_n (by omega))
    have pb := put_ok (w := sA W 32 11 (Ns m))
    rw [kx_sA, ky_sA (by omega), sA_sA, cpr_back hW2 mm1] at pb
    unfold f8_away_118 f8_away_155
    rw [kx_sA, ky_sA (by omega), hW2 4 (by omega), hW2 7 (by omega), pb]
    simp only [bV, bE]
    by_cases hz : Eq2 (Ns m) N0
    · obtain ⟨z1, z3⟩ := id hz
      rw [if_pos z1, if_pos z3, decide_eq_true hz]; rfl
    · rw [decide_eq_false hz]
      by_cases z1 : Ns m 4 = N0 4
      · by_cases z3 : Ns m 7 = N0 7
        · exact absurd ⟨z1, z3⟩ hz
        · rw [if_pos z1, if_neg z3]; rfl
      · rw [if_neg z1]; rfl
end Rock
