/-! inn -/
theorem fin_ch {α : Type} {Q : Nat → α → Prop} (a0 : α) : ∀ n, (∀ i, i < n → ∃ p, Q i p) → ∃ P : Nat → α, ∀ i, i < n → Q i (P i) := by
  intro n
  induction n with
  | zero => intro _; exact ⟨fun _ => a0, fun i hi => absurd hi (by omega)⟩
  | succ n ih =>
    intro h
    obtain ⟨P, hP⟩ := ih (fun i hi => h i (by omega))
    obtain ⟨p, hp⟩ := h n (by omega)
    refine ⟨fun i => if i = n then p else P i, fun i hi => ?_⟩
    dsimp only
    by_cases hz : i = n
    · subst hz; rw [if_pos rfl]; exact hp
    · rw [if_neg hz]; exact hP i (by omega)
theorem RD.mrefl {qh nv B : Nat} {D : Nat → Nat → Int32} {N : Nat → Int32} (h : RD qh nv B D N) (hB : B < 1000001) : Mon N N := by
  obtain ⟨dy, wt, fa, em, sh, st, k1, k2, k3, k4, k5, k6, ⟨b1, c1⟩, ⟨b2, c2⟩, ⟨b3, c3⟩, ⟨b4, c4⟩, ⟨b5, c5⟩, b6⟩ := h
  exact ⟨fun _ _ => rfl, fa, em, sh, fa, em, sh, ⟨by omega, by omega, by omega⟩, ⟨by omega, by omega, by omega⟩, ⟨c3, c4, c5⟩, ⟨c3, c4, c5⟩⟩
theorem sA_inj {w : Mem} {f f' : Nat → Int32} (h : sA w 32 11 f = sA w 32 11 f') : f = f' := by
  have := congrArg (fun m : Mem => m.1 32 11) h
  rw [kx_sA, kx_sA] at this
  exact this
abbrev Eq3 (N N' : Nat → Int32) : Prop := N 4 = N' 4 ∧ N 5 = N' 5 ∧ N 7 = N' 7
abbrev Eq2 (N N' : Nat → Int32) : Prop := N 4 = N' 4 ∧ N 7 = N' 7
section Rock
variable {nv K Y I F Fo : Nat} {ro pe fe fs fg : Nat → Nat} {G : Nat → Nat → Int32} {GL : Nat → Nat → Int64} {M : Nat → Nat → Int32}
theorem tr_mon {i n B : Nat} {qh : Nat} {Ds : Nat → Nat → Nat → Int32} {Ns : Nat → Nat → Int32} (hB : B + n < 900000) (h3 : ∀ k, k ≤ n → RD qh nv (B + k) (Ds k) (Ns k)) (h4 : ∀ k, k < n → Day1 i G GL M (Ds k) (Ns k) (Ds (k + 1)) (Ns (k + 1))) (k : Nat) : ∀ u, k + u ≤ n → Mon (Ns k) (Ns (k + u)) := by
  intro u
  induction u with
  | zero => intro h; exact (h3 k (by omega)).mrefl (by omega)
  | succ u ih => intro h; exact (ih (by omega)).trans (h4 (k + u) (by omega)).1
theorem tr_det {i n g : Nat} {Ds Ds' : Nat → Nat → Nat → Int32} {Ns Ns' : Nat → Nat → Int32} (h4 : ∀ k, k < n → Day1 i G GL M (Ds k) (Ns k) (Ds (k + 1)) (Ns (k + 1))) (h4' : ∀ k, k < n → Day1 i G GL M (Ds' k) (Ns' k) (Ds' (k + 1)) (Ns' (k + 1))) (h0 : Ns 0 = Ns' 0) {w : Mem} (hw : ML g G GL M w) : ∀ k, k ≤ n → Ns k = Ns' k := by
  obtain ⟨x1, x2, x3, x4⟩ := hw
  intro k
  induction k with
  | zero => intro _; exact h0
  | succ k ih =>
    intro hk
    have e := ih (by omega)
    have a := (h4 k (by omega)).2.2 w g (by omega) x2 x3 x4
    have b := (h4' k (by omega)).2.2 w g (by omega) x2 x3 x4
    rw [e, b] at a
    exact (sA_inj (Option.some.inj a)).symm
/-- how far a trial goes -/
def End (a : Nat) (Ns : Nat → Nat → Int32) (m : Nat) : Prop := m ≤ a ∧ (m < a → Ns m 2 = 1) ∧ ∀ u, u < m → Ns u 2 = 0
theorem end_ex {B a : Nat} {Ds : Nat → Nat → Nat → Int32} {Ns : Nat → Nat → Int32} {qh : Nat} (h3 : ∀ k, k ≤ a → RD qh nv (B + k) (Ds k) (Ns k)) : ∃ m, End a Ns m := by
  have h : ∀ j k, k + j = a → (∀ u, u < k → Ns u 2 = 0) → ∃ m, End a Ns m := by
    intro j
    induction j with
    | zero => intro k hk hu; exact ⟨k, by omega, fun z => absurd z (by omega), hu⟩
    | succ j ih =>
      intro k hk hu
      rcases (h3 k (by omega)).dn.2.1 with e | e
      · refine ih (k + 1) (by omega) (fun u hu2 => ?_)
        by_cases hz : u = k
        · subst hz; exact e
        · exact hu u (by omega)
      · exact ⟨k, by omega, fun _ => e, hu⟩
  exact h a 0 (by omega) (fun u hu => absurd hu (by omega))
theorem mon_eq3 {N N' N'' : Nat → Int32} (h : Mon N N') (h' : Mon N' N'') (e : Eq3 N'' N) : Eq3 N' N := by
  obtain ⟨-, a, b, c, a', b', c', ⟨h1, h2, h3⟩, ⟨h4, h5, h6⟩, ⟨h7, h8, h9⟩, ⟨h10, h11, h12⟩⟩ := h
  obtain ⟨-, p, q, r, p', q', r', ⟨g1, g2, g3⟩, ⟨g4, g5, g6⟩, ⟨g7, g8, g9⟩, ⟨g10, g11, g12⟩⟩ := h'
  obtain ⟨e1, e2, e3⟩ := e
  have i1 := (nI_eq (by omega) (by omega)).mp (h10.symm.trans g7)
  have i2 := (nI_eq (by omega) (by omega)).mp (h11.symm.trans g8)
  have i3 := (nI_eq (by omega) (by omega)).mp (h12.symm.trans g9)
  have i4 := (nI_eq (by omega) (by omega)).mp (g10.symm.trans (e1.trans h7))
  have i5 := (nI_eq (by omega) (by omega)).mp (g11.symm.trans (e2.trans h8))
  have i6 := (nI_eq (by omega) (by omega)).mp (g12.symm.trans (e3.trans h9))
  exact ⟨by rw [h10, h7, show a' = a by omega], by rw [h11, h8, show b' = b by omega], by rw [h12, h9, show c' = c by omega]⟩
theorem mon_t3 {N N' : Nat → Int32} (h : Mon N N') : (N 4 < N' 4 ∨ N 7 < N' 7 ∨ ¬ N' 5 ≤ N 5) ↔ ¬ Eq3 N' N := by
  obtain ⟨-, a, b, c, a', b', c', ⟨h1, h2, h3⟩, ⟨h4, h5, h6⟩, ⟨h7, h8, h9⟩, ⟨h10, h11, h12⟩⟩ := h
  unfold Eq3
  rw [h7, h8, h9, h10, h11, h12, nI_ltI (by omega) (by omega), nI_ltI (by omega) (by omega), nI_leI (by omega) (by omega), nI_eq (by omega) (by omega), nI_eq (by omega) (by omega), nI_eq (by omega) (by omega)]
  omega
theorem la_loop {g B a i m : Nat} {D0 : Nat → Nat → Int32} {N0 : Nat → Int32} {Ds : Nat → Nat → Nat → Int32} {Ns : Nat → Nat → Int32} (ha : a ≤ 60) (hB : B + a < 900000) (h3 : ∀ k, k ≤ a → RD 0 nv (B + k) (Ds k) (Ns k)) (h4 : ∀ k, k < a → Day1 i G GL M (Ds k) (Ns k) (Ds (k + 1)) (Ns (k + 1))) (hm : End a Ns m) (h0 : Ns 0 = N0) {w : Mem} (hw : CL g G GL w) (hD : w.1 0 = D0) (hDN : D0 9 0 = N0 4 ∧ D0 10 0 = N0 5 ∧ D0 12 0 = N0 7) :
    ∀ (j k n : Nat), k + j = m → j < n → Eq3 (Ns k) N0 → ∃ T, f7_isLargeEnough_13 (nI i) (nI a) n (nI k) (sO w 1 (Ds k)) = some (if Eq3 (Ns m) N0 then 1 else 0, sO w 1 T) := by
  obtain ⟨g1, g2, g3, g4⟩ := hw
  obtain ⟨m1, m2, m3⟩ := hm
  intro j
  induction j with
  | zero =>
    intro k n hk hn he
    obtain ⟨n, rfl⟩ : ∃ m, n = m + 1 := ⟨n - 1, by omega⟩
    obtain rfl : k = m := by omega
    refine ⟨Ds k, ?_⟩
    rw [f7_isLargeEnough_13, if_pos he]
    rcases Nat.lt_or_ge k a with hz | hz
    · have e1 := (h3 k (by omega)).dn.1.trans (m2 hz)
      simp (disch := omega) only [bE, bO, bV, bK, nI_lit, nI_add, lt_T, lt_F, le_T, le_F, eq_T, eq_F, ltm_T, ltm_F, lem_T, lem_F, eqm_F, meq_F, cl_nI, nle_T, nle_F, nlt_T, nlt_F, ↓reduceIte, or_true, true_or, or_false, false_or, and_true, true_and, and_false, false_and, not_true_eq_false, not_false_eq_true, or_self, and_self, true_implies, ite_self, sO_s, e1]
    · simp (disch := omega) only [bE, bO, bV, bK, nI_lit, nI_add, lt_T, lt_F, le_T, le_F, eq_T, eq_F, ltm_T, ltm_F, lem_T, lem_F, eqm_F, meq_F, cl_nI, nle_T, nle_F, nlt_T, nlt_F, ↓reduceIte, or_true, true_or, or_false, false_or, and_true, true_and, and_false, false_and, not_true_eq_false, not_false_eq_true, or_self, and_self, true_implies, ite_self]
  | succ j ih =>
    intro k n hk hn he
    obtain ⟨n, rfl⟩ : ∃ m, n = m + 1 := ⟨n - 1, by omega⟩
    obtain ⟨s1, s2, s3⟩ := h4 k (by omega)
    have d1 := (h3 k (by omega)).dn
    have d2 := (h3 (k + 1) (by omega)).dn
    have z2 := s2 w 1 g (by omega) g3 g4
    have e1 := d1.1.trans (m3 k (by omega))
    have mm : Mon N0 (Ns (k + 1)) := by
      have y := tr_mon hB h3 h4 0 (k + 1) (by omega)
      rw [h0, Nat.zero_add] at y; exact y
    have mm2 : Mon (Ns (k + 1)) (Ns m) := by
      have y := tr_mon hB h3 h4 (k + 1) j (by omega)
      rw [show k + 1 + j = m by omega] at y; exact y
    have tt := mon_t3 mm
    have st : f7_isLargeEnough_13 (nI i) (nI a) (n + 1) (nI k) (sO w 1 (Ds k)) = if N0 4 < Ns (k + 1) 4 then some (0, sO w 1 (Ds (k + 1))) else if N0 7 < Ns (k + 1) 7 then some (0, sO w 1 (Ds (k + 1))) else if Ns (k + 1) 5 ≤ N0 5 then f7_isLargeEnough_13 (nI i) (nI a) n (nI (k + 1)) (sO w 1 (Ds (k + 1))) else some (0, sO w 1 (Ds (k + 1))) := by
      rw [f7_isLargeEnough_13]
      simp (disch := omega) only [bE, bO, bV, bK, nI_lit, nI_add, lt_T, lt_F, le_T, le_F, eq_T, eq_F, ltm_T, ltm_F, lem_T, lem_F, eqm_F, meq_F, cl_nI, nle_T, nle_F, nlt_T, nlt_F, ↓reduceIte, or_true, true_or, or_false, false_or, and_true, true_and, and_false, false_and, not_true_eq_false, not_false_eq_true, or_self, and_self, true_implies, ite_self, sO_2, rk_g g1 g2, z2, sO_s, sO_n, e1, hD, hDN.1, hDN.2.1, hDN.2.2, d2.2.2.2.1, d2.2.2.2.2.1, d2.2.2.2.2.2]
    by_cases hz : Eq3 (Ns (k + 1)) N0
    · obtain ⟨T, hT⟩ := ih (k + 1) n (by omega) (by omega) hz
      have t2 : ¬ (N0 4 < Ns (k + 1) 4 ∨ N0 7 < Ns (k + 1) 7 ∨ ¬ Ns (k + 1) 5 ≤ N0 5) := fun z => (tt.mp z) hz
      refine ⟨T, ?_⟩
      rw [st, if_neg (fun z => t2 (Or.inl z)), if_neg (fun z => t2 (Or.inr (Or.inl z))), if_pos (Decidable.byContradiction (fun z => t2 (Or.inr (Or.inr z))))]
      exact hT
    · refine ⟨Ds (k + 1), ?_⟩
      rw [st, if_neg (fun z => hz (mon_eq3 mm mm2 z))]
      rcases tt.mpr hz with z | z | z
      · rw [if_pos z]
      · rw [if_pos z, ite_self]
      · rw [if_neg z, ite_self, ite_self]
theorem mi2_loop {g B a i m : Nat} {b : Int32} {Ds : Nat → Nat → Nat → Int32} {Ns : Nat → Nat → Int32} (ha : a ≤ 60) (h4 : ∀ k, k < a → Day1 i G GL M (Ds k) (Ns k) (Ds (k + 1)) (Ns (k + 1))) (hm : End a Ns m) {w : Mem} (hw : ML g G GL M w) (rec : Int32 → Int32 → Mem → Option (Int32 × Mem)) :
    ∀ (j k n : Nat), k + j = m → j < n → f8_inn_41 (nI a) rec n b (nI i) (nI k) (sA w 32 11 (Ns k)) = f8_inn_67 (nI a) rec b (nI i) (sA w 32 11 (Ns m)) := by
  obtain ⟨x1, x2, x3, x4⟩ := hw
  obtain ⟨m1, m2, m3⟩ := hm
  intro j
  induction j with
  | zero =>
    intro k n hk hn
    obtain ⟨n, rfl⟩ : ∃ m, n = m + 1 := ⟨n - 1, by omega⟩
    obtain rfl : k = m := by omega
    rw [f8_inn_41]
    rcases Nat.lt_or_ge k a with hz | hz
    · have e1 := m2 hz
      simp (disch := omega) only [bE, bO, bV, bK, nI_lit, nI_add, lt_T, lt_F, le_T, le_F, eq_T, eq_F, ltm_T, ltm_F, lem_T, lem_F, eqm_F, meq_F, cl_nI, nle_T, nle_F, nlt_T, nlt_F, ↓reduceIte, or_true, true_or, or_false, false_or, and_true, true_and, and_false, false_and, not_true_eq_false, not_false_eq_true, or_self, and_self, true_implies, ite_self, kx_sA, e1]
    · simp (disch := omega) only [bE, bO, bV, bK, nI_lit, nI_add, lt_T, lt_F, le_T, le_F, eq_T, eq_F, ltm_T, ltm_F, lem_T, lem_F, eqm_F, meq_F, cl_nI, nle_T, nle_F, nlt_T, nlt_F, ↓reduceIte, or_true, true_or, or_false, false_or, and_true, true_and, and_false, false_and, not_true_eq_false, not_false_eq_true, or_self, and_self, true_implies, ite_self]
  | succ j ih =>
    intro k n hk hn
    obtain ⟨n, rfl⟩ : ∃ m, n = m + 1 := ⟨n - 1, by omega⟩
    have z3 := (h4 k (by omega)).2.2 w g (by omega) x2 x3 x4
    have e1 := m3 k (by omega)
    rw [f8_inn_41]
    simp (disch := omega) only [bE, bO, bV, bK, nI_lit, nI_add, lt_T, lt_F, le_T, le_F, eq_T, eq_F, ltm_T, ltm_F, lem_T, lem_F, eqm_F, meq_F, cl_nI, nle_T, nle_F, nlt_T, nlt_F, ↓reduceIte, or_true, true_or, or_false, false_or, and_true, true_and, and_false, false_and, not_true_eq_false, not_false_eq_true, or_self, and_self, true_implies, ite_self, kx_sA, e1, z3]
    exact ih (k + 1) n (by omega) (by omega)
theorem cpr_back {W N N' : Nat → Int32} (h : ∀ k, k < 103 → W k = N k) (h2 : ∀ k, 103 ≤ k → N' k = N k) : cpr W N' 103 = N := by
  funext k
  unfold cpr
  by_cases hk : k < 103
  · rw [if_pos hk]; exact h k hk
  · rw [if_neg hk]; exact h2 k (by omega)
/-- one size of the inn, tried on both sides -/
theorem one_inn {g B a i : Nat} {w : Mem} {N0 : Nat → Int32} (ha : a ≤ 60) (hi : i ≤ 9) (hB : B + a < 900000) (hR : RD 60 nv B (w.1 0) N0) (hG : RG nv K Y I F Fo ro pe fe fs fg G GL M) (hw : CL g G GL w) (hM : ML g G GL M w) :
    ∃ p : Bool, (∀ T, ∃ T', f7_isLargeEnough (nI i) (nI a) (sO w 1 T) = some (if p then 1 else 0, sO w 1 T')) ∧ ∀ W b rec, ML g G GL M W → (∀ k, k < 103 → W.1 32 31 k = N0 k) → f8_inn_41 (nI a) rec 100000 b (nI i) (nI 0) (sA W 32 11 N0) = rec (if p then nI i else b) (nI i + (-1)) (sA W 32 11 N0) := by
  have hnv := hG.1.1
  have d0 := hR.dn
  obtain ⟨Ds, Ns, t1, t2, t3, t4⟩ := traj (hR.go hnv (E := w.1 1)) hG hi a hB
  obtain ⟨m, hm⟩ := end_ex t3
  refine ⟨decide (Eq3 (Ns m) N0), fun T => ?_, fun W b rec hW hW2 => ?_⟩
  · obtain ⟨Ds', Ns', t1', t2', t3', t4'⟩ := traj (hR.go hnv (E := T)) hG hi a hB
    have hdet := tr_det t4' t4 (t2'.trans t2.symm) hM
    have hm' : End a Ns' m := ⟨hm.1, fun z => by rw [hdet m hm.1]; exact hm.2.1 z, fun u hu => by have := hm.1; rw [hdet u (by omega)]; exact hm.2.2 u hu⟩
    obtain ⟨T', hT'⟩ := la_loop ha hB t3' t4' hm' t2' hw rfl ⟨d0.2.2.2.1, d0.2.2.2.2.1, d0.2.2.2.2.2⟩ m 0 100000 (by omega) (by have := hm.1; omega) (by rw [t2']; exact ⟨rfl, rfl, rfl⟩)
    refine ⟨T', ?_⟩
    unfold f7_isLargeEnough
    have z := go_ok (w := sO w 1 T) (d0 := 1) (d1 := 0) (by omega) (by rw [sO_n (by omega), d0.1]; exact d0.2.1)
    rw [sO_n (by omega), sO_s, sO_sO, ← t1'] at z
    rw [z, bV]
    refine hT'.trans ?_
    rw [hdet m hm.1]
    by_cases hz : Eq3 (Ns m) N0
    · rw [if_pos hz, decide_eq_true hz, if_pos rfl]
    · rw [if_neg hz, decide_eq_false hz]; rfl
  · have y := mi2_loop (B := B) (b := b) ha t4 hm hW rec m 0 100000 (by omega) (by have := hm.1; omega)
    rw [t2] at y
    refine y.trans ?_
    have mm := tr_mon hB t3 t4 0 m (by have := hm.1; omega)
    rw [t2, Nat.zero_add] at mm
    have pb := put_ok (w := sA W 32 11 (Ns m))
    rw [kx_sA, ky_sA (by omega), sA_sA, cpr_back hW2 mm.1] at pb
    unfold f8_inn_67 f8_inn_119
    rw [kx_sA, ky_sA (by omega), hW2 4 (by omega), hW2 5 (by omega), hW2 7 (by omega), pb]
    simp only [bV, bE]
    by_cases hz : Eq3 (Ns m) N0
    · obtain ⟨z1, z2, z3⟩ := id hz
      rw [if_pos z1, if_pos z2, if_pos z3, decide_eq_true hz]; rfl
    · rw [decide_eq_false hz]
      by_cases z1 : Ns m 4 = N0 4
      · by_cases z2 : Ns m 5 = N0 5
        · by_cases z3 : Ns m 7 = N0 7
          · exact absurd ⟨z1, z2, z3⟩ hz
          · rw [if_pos z1, if_pos z2, if_neg z3]; rfl
        · rw [if_pos z1, if_neg z2]; rfl
      · rw [if_neg z1]; rfl
end Rock
/-- the least of some that has a property -/
def lp (P : Nat → Bool) : Nat → Nat → Int32
  | _, 0 => -1
  | i, k + 1 => if P i then nI i else lp P (i + 1) k
