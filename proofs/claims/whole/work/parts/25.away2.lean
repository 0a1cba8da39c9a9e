/-! away, whole -/
/-- the best set below n: fewest, then least -/
def bst (Q : Nat → Bool) : Nat → Option Nat
  | 0 => none
  | s + 1 => match bst Q s with
    | none => if Q s then some s else none
    | some b => if Q s = true ∧ pc s < pc b then some s else some b
theorem bst_ok (Q : Nat → Bool) : ∀ n, (bst Q n = none → ∀ s, s < n → Q s = false) ∧ ∀ b, bst Q n = some b → b < n ∧ Q b = true ∧ ∀ s, s < n → Q s = true → pc b < pc s ∨ (pc b = pc s ∧ b ≤ s) := by
  intro n
  induction n with
  | zero => exact ⟨fun _ s hs => absurd hs (by omega), fun b hb => by cases hb⟩
  | succ n ih =>
    unfold bst
    cases hb : bst Q n with
    | none =>
      have h1 := ih.1 hb
      cases hq : Q n with
      | true =>
        simp only [if_true]
        refine ⟨fun z => (by cases z), fun b z => ?_⟩
        cases z
        refine ⟨by omega, hq, fun s hs hs2 => ?_⟩
        by_cases hz : s = n
        · subst hz; exact Or.inr ⟨rfl, by omega⟩
        · rw [h1 s (by omega)] at hs2; cases hs2
      | false =>
        simp only [Bool.false_eq_true, if_false]
        refine ⟨fun _ s hs => ?_, fun b z => (by cases z)⟩
        by_cases hz : s = n
        · subst hz; exact hq
        · exact h1 s (by omega)
    | some c =>
      obtain ⟨h1, h2, h3⟩ := ih.2 c hb
      by_cases hc : Q n = true ∧ pc n < pc c
      · simp only [if_pos hc]
        refine ⟨fun z => (by cases z), fun b z => ?_⟩
        cases z
        refine ⟨by omega, hc.1, fun s hs hs2 => ?_⟩
        by_cases hz : s = n
        · subst hz; exact Or.inr ⟨rfl, by omega⟩
        · rcases h3 s (by omega) hs2 with z | z <;> exact Or.inl (by omega)
      · simp only [if_neg hc]
        refine ⟨fun z => (by cases z), fun b z => ?_⟩
        cases z
        refine ⟨by omega, h2, fun s hs hs2 => ?_⟩
        by_cases hz : s = n
        · subst hz
          have : ¬ pc s < pc c := fun z => hc ⟨hs2, z⟩
          omega
        · exact h3 s (by omega) hs2
theorem bst_F {Q : Nat → Bool} {s : Nat} (hq : Q s = false) : bst Q (s + 1) = bst Q s := by
  rw [bst]
  cases bst Q s with
  | none => simp only [hq, Bool.false_eq_true, if_false]
  | some b => simp only [hq, Bool.false_eq_true, false_and, if_false]
theorem bst_0 {Q : Nat → Bool} {s : Nat} (hb : bst Q s = none) (hq : Q s = true) : bst Q (s + 1) = some s := by
  rw [bst, hb]; exact if_pos hq
theorem bst_1 {Q : Nat → Bool} {s b : Nat} (hb : bst Q s = some b) (hq : Q s = true) (hp : pc s < pc b) : bst Q (s + 1) = some s := by
  rw [bst, hb]; exact if_pos ⟨hq, hp⟩
theorem bst_2 {Q : Nat → Bool} {s b : Nat} (hb : bst Q s = some b) (hp : ¬ pc s < pc b) : bst Q (s + 1) = some b := by
  rw [bst, hb]; exact if_neg (fun q => hp q.2)
def bI : Option Nat → Int32
  | none => -1
  | some b => nI b
section Sets
variable {a V st : Nat} {A P : Nat → Bool} {w : Mem}
theorem cs_one (hV : V ≤ 256) (hA : ∀ s, s < V → (A s = true ↔ nI s &&& w.1 0 4 0 = 0)) (hP : ∀ s, s < V → ∀ T, ∃ T', f7_isPeaceful (nI s) (nI a) (sO w 1 T) = some (if P s then 1 else 0, sO w 1 T')) (rec : Int32 → Int32 → Mem → Option (Int32 × Mem)) {s z n : Nat} (hs : s < V) (hz : z < 9) (T : Nat → Nat → Int32) :
    ∃ T', f7_away_46 (nI a) rec (n + 1) (nI (V - 1)) (nI z) (nI s) (sO w 1 T) = if A s = true ∧ P s = true ∧ pc s = z then some (nI s, sO w 1 T') else f7_away_46 (nI a) rec n (nI (V - 1)) (nI z) (nI (s + 1)) (sO w 1 T') := by
  have hp := pc_le s (by omega)
  have e0 := hA s hs
  rw [f7_away_46]
  by_cases h1 : nI s &&& w.1 0 4 0 = 0
  · have a1 := e0.mpr h1
    have bc := bitCount_ok (show s < 256 by omega) (sO w 1 T)
    by_cases h2 : pc s = z
    · obtain ⟨T', hT'⟩ := hP s hs T
      refine ⟨T', ?_⟩
      unfold f7_away_79
      replace h1 : nI s &&& w.1 0 4 0 = nI 0 := h1
      by_cases h3 : P s = true
      · rw [if_pos h3] at hT'
        rw [if_pos (show A s = true ∧ P s = true ∧ pc s = z from ⟨a1, h3, h2⟩)]
        simp (disch := omega) only [bE, bO, bV, bK, nI_lit, nI_add, lt_T, lt_F, le_T, le_F, eq_T, eq_F, ltm_T, ltm_F, lem_T, lem_F, eqm_F, meq_F, cl_nI, nle_T, nle_F, nlt_T, nlt_F, ↓reduceIte, or_true, true_or, or_false, false_or, and_true, true_and, and_false, false_and, not_true_eq_false, not_false_eq_true, or_self, and_self, true_implies, ite_self, sO_n, h1, bc, h2, hT']
      · rw [if_neg h3] at hT'
        rw [if_neg (show ¬ (A s = true ∧ P s = true ∧ pc s = z) from fun q => h3 q.2.1)]
        simp (disch := omega) only [bE, bO, bV, bK, nI_lit, nI_add, lt_T, lt_F, le_T, le_F, eq_T, eq_F, ltm_T, ltm_F, lem_T, lem_F, eqm_F, meq_F, cl_nI, nle_T, nle_F, nlt_T, nlt_F, ↓reduceIte, or_true, true_or, or_false, false_or, and_true, true_and, and_false, false_and, not_true_eq_false, not_false_eq_true, or_self, and_self, true_implies, ite_self, sO_n, h1, bc, h2, hT']
    · refine ⟨T, ?_⟩
      unfold f7_away_79
      replace h1 : nI s &&& w.1 0 4 0 = nI 0 := h1
      rw [if_neg (show ¬ (A s = true ∧ P s = true ∧ pc s = z) from fun q => h2 q.2.2)]
      simp (disch := omega) only [bE, bO, bV, bK, nI_lit, nI_add, lt_T, lt_F, le_T, le_F, eq_T, eq_F, ltm_T, ltm_F, lem_T, lem_F, eqm_F, meq_F, cl_nI, nle_T, nle_F, nlt_T, nlt_F, ↓reduceIte, or_true, true_or, or_false, false_or, and_true, true_and, and_false, false_and, not_true_eq_false, not_false_eq_true, or_self, and_self, true_implies, ite_self, sO_n, h1, bc]
  · refine ⟨T, ?_⟩
    unfold f7_away_79
    have h1' : (nI s &&& w.1 0 4 0 = nI 0) = False := eq_false h1
    rw [if_neg (show ¬ (A s = true ∧ P s = true ∧ pc s = z) from fun q => h1 (e0.mp q.1))]
    simp (disch := omega) only [bE, bO, bV, bK, nI_lit, nI_add, lt_T, lt_F, le_T, le_F, eq_T, eq_F, ltm_T, ltm_F, lem_T, lem_F, eqm_F, meq_F, cl_nI, nle_T, nle_F, nlt_T, nlt_F, ↓reduceIte, or_true, true_or, or_false, false_or, and_true, true_and, and_false, false_and, not_true_eq_false, not_false_eq_true, or_self, and_self, true_implies, ite_self, sO_n, h1']
theorem cs_miss (hV : V ≤ 256) (hA : ∀ s, s < V → (A s = true ↔ nI s &&& w.1 0 4 0 = 0)) (hP : ∀ s, s < V → ∀ T, ∃ T', f7_isPeaceful (nI s) (nI a) (sO w 1 T) = some (if P s then 1 else 0, sO w 1 T')) (rec : Int32 → Int32 → Mem → Option (Int32 × Mem)) {z : Nat} (hz : z < 9) (hV0 : 0 < V) (hq : ∀ s, s < V → ¬ (A s = true ∧ P s = true ∧ pc s = z)) :
    ∀ k s n T, s + k = V → k < n → ∃ T', f7_away_46 (nI a) rec n (nI (V - 1)) (nI z) (nI s) (sO w 1 T) = rec (nI (V - 1)) (nI (z + 1)) (sO w 1 T') := by
  intro k
  induction k with
  | zero =>
    intro s n T hs hn
    obtain ⟨n, rfl⟩ : ∃ m, n = m + 1 := ⟨n - 1, by omega⟩
    refine ⟨T, ?_⟩
    rw [f7_away_46]
    simp (disch := omega) only [bE, bO, bV, bK, nI_lit, nI_add, lt_T, lt_F, le_T, le_F, eq_T, eq_F, ltm_T, ltm_F, lem_T, lem_F, eqm_F, meq_F, cl_nI, nle_T, nle_F, nlt_T, nlt_F, ↓reduceIte, or_true, true_or, or_false, false_or, and_true, true_and, and_false, false_and, not_true_eq_false, not_false_eq_true, or_self, and_self, true_implies, ite_self]
  | succ k ih =>
    intro s n T hs hn
    obtain ⟨n, rfl⟩ : ∃ m, n = m + 1 := ⟨n - 1, by omega⟩
    obtain ⟨T1, h1⟩ := cs_one hV hA hP rec (n := n) (show s < V by omega) hz T
    rw [if_neg (hq s (by omega))] at h1
    obtain ⟨T2, h2⟩ := ih (s + 1) n T1 (by omega) (by omega)
    exact ⟨T2, h1.trans h2⟩
theorem cs_hit (hV : V ≤ 256) (hA : ∀ s, s < V → (A s = true ↔ nI s &&& w.1 0 4 0 = 0)) (hP : ∀ s, s < V → ∀ T, ∃ T', f7_isPeaceful (nI s) (nI a) (sO w 1 T) = some (if P s then 1 else 0, sO w 1 T')) (rec : Int32 → Int32 → Mem → Option (Int32 × Mem)) {z b : Nat} (hz : z < 9) (hb : b < V) (hb2 : A b = true ∧ P b = true ∧ pc b = z) (hq : ∀ s, s < b → ¬ (A s = true ∧ P s = true ∧ pc s = z)) :
    ∀ k s n T, s + k = b → k < n → ∃ T', f7_away_46 (nI a) rec n (nI (V - 1)) (nI z) (nI s) (sO w 1 T) = some (nI b, sO w 1 T') := by
  intro k
  induction k with
  | zero =>
    intro s n T hs hn
    obtain ⟨n, rfl⟩ : ∃ m, n = m + 1 := ⟨n - 1, by omega⟩
    obtain rfl : s = b := by omega
    obtain ⟨T1, h1⟩ := cs_one hV hA hP rec (n := n) hb hz T
    rw [if_pos hb2] at h1
    exact ⟨T1, h1⟩
  | succ k ih =>
    intro s n T hs hn
    obtain ⟨n, rfl⟩ : ∃ m, n = m + 1 := ⟨n - 1, by omega⟩
    obtain ⟨T1, h1⟩ := cs_one hV hA hP rec (n := n) (show s < V by omega) hz T
    rw [if_neg (hq s (by omega))] at h1
    obtain ⟨T2, h2⟩ := ih (s + 1) n T1 (by omega) (by omega)
    exact ⟨T2, h1.trans h2⟩
theorem cs_ok (hV : V ≤ 256) (hA : ∀ s, s < V → (A s = true ↔ nI s &&& w.1 0 4 0 = 0)) (hP : ∀ s, s < V → ∀ T, ∃ T', f7_isPeaceful (nI s) (nI a) (sO w 1 T) = some (if P s then 1 else 0, sO w 1 T')) (hV0 : 0 < V) :
    ∀ k z n T, z + k = 9 → k < n → (∀ s, s < V → A s = true ∧ P s = true → z ≤ pc s) → ∃ T', f7_away_37 (nI a) n (nI (V - 1)) (nI z) (sO w 1 T) = some (bI (bst (fun s => A s && P s) V), sO w 1 T') := by
  have hB := bst_ok (fun s => A s && P s) V
  intro k
  induction k with
  | zero =>
    intro z n T hz hn hlow
    obtain ⟨n, rfl⟩ : ∃ m, n = m + 1 := ⟨n - 1, by omega⟩
    obtain rfl : z = 9 := by omega
    refine ⟨T, ?_⟩
    cases hb : bst (fun s => A s && P s) V with
    | none =>
      rw [f7_away_37]
      simp (disch := omega) only [bE, bO, bV, bK, nI_lit, nI_add, lt_T, lt_F, le_T, le_F, eq_T, eq_F, ltm_T, ltm_F, lem_T, lem_F, eqm_F, meq_F, cl_nI, nle_T, nle_F, nlt_T, nlt_F, ↓reduceIte, or_true, true_or, or_false, false_or, and_true, true_and, and_false, false_and, not_true_eq_false, not_false_eq_true, or_self, and_self, true_implies, ite_self]
      rfl
    | some b =>
      obtain ⟨h1, h2, h3⟩ := hB.2 b hb
      have := hlow b h1 (Bool.and_eq_true_iff.mp h2)
      have := pc_le b (by omega)
      omega
  | succ k ih =>
    intro z n T hz hn hlow
    obtain ⟨n, rfl⟩ : ∃ m, n = m + 1 := ⟨n - 1, by omega⟩
    by_cases hh : ∃ b, bst (fun s => A s && P s) V = some b ∧ pc b = z
    · obtain ⟨b, hb, hb2⟩ := hh
      obtain ⟨h1, h2, h3⟩ := hB.2 b hb
      have h2' := Bool.and_eq_true_iff.mp h2
      obtain ⟨T', hT'⟩ := cs_hit hV hA hP (f7_away_37 (nI a) n) (z := z) (b := b) (by omega) h1 ⟨h2'.1, h2'.2, hb2⟩ (fun s hs q => by have := h3 s (by omega) (Bool.and_eq_true_iff.mpr ⟨q.1, q.2.1⟩); omega) b 0 100000 T (by omega) (by omega)
      refine ⟨T', ?_⟩
      rw [hb, f7_away_37]
      simp (disch := omega) only [bE, bO, bV, bK, nI_lit, nI_add, lt_T, lt_F, le_T, le_F, eq_T, eq_F, ltm_T, ltm_F, lem_T, lem_F, eqm_F, meq_F, cl_nI, nle_T, nle_F, nlt_T, nlt_F, ↓reduceIte, or_true, true_or, or_false, false_or, and_true, true_and, and_false, false_and, not_true_eq_false, not_false_eq_true, or_self, and_self, true_implies, ite_self]
      exact hT'
    · have hq : ∀ s, s < V → ¬ (A s = true ∧ P s = true ∧ pc s = z) := by
        intro s hs q
        have q1 : (A s && P s) = true := Bool.and_eq_true_iff.mpr ⟨q.1, q.2.1⟩
        cases hb : bst (fun s => A s && P s) V with
        | none => have := hB.1 hb s hs; rw [q1] at this; cases this
        | some b =>
          obtain ⟨h1, h2, h3⟩ := hB.2 b hb
          have y1 := h3 s hs q1
          have y2 := hlow b h1 (Bool.and_eq_true_iff.mp h2)
          exact hh ⟨b, hb, by omega⟩
      obtain ⟨T1, h1⟩ := cs_miss hV hA hP (f7_away_37 (nI a) n) (z := z) (by omega) hV0 hq V 0 100000 T (by omega) (by omega)
      obtain ⟨T2, h2⟩ := ih (z + 1) n T1 (by omega) (by omega) (fun s hs q => by have y := hlow s hs q; have y2 : pc s ≠ z := fun e => hq s hs ⟨q.1, q.2, e⟩; omega)
      refine ⟨T2, ?_⟩
      rw [f7_away_37]
      simp (disch := omega) only [bE, bO, bV, bK, nI_lit, nI_add, lt_T, lt_F, le_T, le_F, eq_T, eq_F, ltm_T, ltm_F, lem_T, lem_F, eqm_F, meq_F, cl_nI, nle_T, nle_F, nlt_T, nlt_F, ↓reduceIte, or_true, true_or, or_false, false_or, and_true, true_and, and_false, false_and, not_true_eq_false, not_false_eq_true, or_self, and_self, true_implies, ite_self]
      exact h1.trans h2
end Sets
theorem sh1 : ∀ v, v < 9 → jshl 1 (nI v) = nI (2 ^ v) := by decide
theorem sh1m : ∀ v, v < 9 → jshl 1 (nI v) - 1 = nI (2 ^ v - 1) := by decide
theorem md_ok {a nv : Nat} {A P : Nat → Bool} {W : Mem} {N0 : Nat → Int32} (hnv : nv ≤ 8) (h3 : W.1 32 3 0 = nI nv) (hA : ∀ s, s < 2 ^ nv → (A s = true ↔ nI s &&& W.1 32 31 8 = 0)) (hP : ∀ s, s < 2 ^ nv → ∀ b rec, f8_away_70 (nI a) rec b (nI s) (sA W 32 11 N0) = rec (if P s then nI s else b) (nI s + 1) (sA W 32 11 N0)) :
    ∀ k s n, s + k = 2 ^ nv → k < n → f8_away_33 (nI a) n (bI (bst (fun s => A s && P s) s)) (nI s) (sA W 32 11 N0) = some (bI (bst (fun s => A s && P s) (2 ^ nv)), sA W 32 11 N0) := by
  have hV : 2 ^ nv ≤ 2 ^ 8 := Nat.pow_le_pow_right (by omega) hnv
  have hsh := sh1 nv (by omega)
  intro k
  induction k with
  | zero =>
    intro s n hs hn
    obtain ⟨n, rfl⟩ : ∃ m, n = m + 1 := ⟨n - 1, by omega⟩
    obtain rfl : s = 2 ^ nv := by omega
    rw [f8_away_33, ky_sA (by omega), h3, hsh]
    exact if_pos (Int32.le_refl _)
  | succ k ih =>
    intro s n hs hn
    obtain ⟨n, rfl⟩ : ∃ m, n = m + 1 := ⟨n - 1, by omega⟩
    have i1 := ih (s + 1) n (by omega) (by omega)
    have e0 := hA s (by omega)
    rw [f8_away_33, ky_sA (by omega), h3, hsh, ky_sA (by omega), if_neg (nI_ge (show s < 2 ^ nv by omega) (by omega))]
    by_cases h1 : nI s &&& W.1 32 31 8 = 0
    · have a1 := e0.mpr h1
      rw [if_pos h1]
      cases hb : bst (fun s => A s && P s) s with
      | none =>
        rw [show bI none = -1 from rfl, if_pos (by decide), hP s (by omega), show nI s + 1 = nI (s + 1) from nI_add s 1]
        cases hp : P s with
        | true =>
          rw [bst_0 hb (by simp only [a1, hp, Bool.and_self])] at i1
          exact i1
        | false =>
          rw [bst_F (by simp only [hp, Bool.and_false]), hb] at i1
          exact i1
      | some b =>
        obtain ⟨h1', h2', h3'⟩ := (bst_ok (fun s => A s && P s) s).2 b hb
        rw [show bI (some b) = nI b from rfl, if_neg (nI_pos (by omega)), bits_ok (show s < 256 by omega), bO, bits_ok (show b < 256 by omega), bO]
        have p1 := pc_le s (by omega)
        have p2 := pc_le b (by omega)
        by_cases hpc : pc s < pc b
        · rw [if_neg (nI_ge hpc (by omega)), hP s (by omega), show nI s + 1 = nI (s + 1) from nI_add s 1]
          cases hp : P s with
          | true =>
            rw [bst_1 hb (by simp only [a1, hp, Bool.and_self]) hpc] at i1
            exact i1
          | false =>
            rw [bst_F (by simp only [hp, Bool.and_false]), hb] at i1
            exact i1
        · rw [if_pos (nI_le (by omega) (by omega)), bE, show nI s + 1 = nI (s + 1) from nI_add s 1]
          rw [bst_2 hb hpc] at i1
          exact i1
    · rw [if_neg h1, bE, show nI s + 1 = nI (s + 1) from nI_add s 1]
      have a1 : A s = false := by
        cases hc : A s with
        | true => exact absurd (e0.mp hc) h1
        | false => rfl
      rw [bst_F (by simp only [a1, Bool.false_and])] at i1
      exact i1
theorem q_away {n : Nat} {w : Mem} (hn : n < 100) (h : Rel n w) (a : Int32) : Same n w (f7_away a) (f8_away a) := by
  obtain ⟨⟨g, nv, K, Y, I, F, Fo, ro, pe, fe, fs, fg, h1, h2, h3, h4, h5, h6, h7⟩, hT, hF, hN⟩ := id h
  by_cases ha : nI 1 ≤ a ∧ a ≤ nI 30
  · obtain ⟨t, ht, ht2, rfl⟩ : ∃ t : Nat, 1 ≤ t ∧ t ≤ 30 ∧ a = nI t := by
      rcases ix3 a 31 (by omega) with z | z | ⟨t, ht, rfl⟩
      · exact absurd (Int32.lt_of_le_of_lt ha.1 z) (by decide)
      · exact absurd (Int32.le_trans z ha.2) (by decide)
      · exact ⟨t, (nI_leI (by omega) (by omega)).mp ha.1, by omega, rfl⟩
    have d0 := h4.dn
    have h30 := h3
    obtain ⟨⟨q1, q2, q3, q4, q5, q6, q7⟩, r0, ⟨r1, s1⟩, ⟨r2, s2⟩, ⟨r3, s3⟩, ⟨r4, s4⟩, -⟩ := h3
    rcases Nat.eq_zero_or_pos K with rfl | hK
    · refine ⟨-1000000003, w, w, ?_, ?_, h.next (by omega)⟩
      · unfold f7_away
        rw [if_pos rfl] at r0
        simp (disch := omega) only [bE, bO, bV, bK, nI_lit, nI_add, lt_T, lt_F, le_T, le_F, eq_T, eq_F, ltm_T, ltm_F, lem_T, lem_F, eqm_F, meq_F, cl_nI, nle_T, nle_F, nlt_T, nlt_F, ↓reduceIte, or_true, true_or, or_false, false_or, and_true, true_and, and_false, false_and, not_true_eq_false, not_false_eq_true, or_self, and_self, true_implies, ite_self, rk_g h1 h2.1, r0]
      · unfold f8_away
        rw [in1_ok (m := 30) (b := 30) _ rfl, if_pos ha]
        simp (disch := omega) only [bE, bO, bV, bK, nI_lit, nI_add, lt_T, lt_F, le_T, le_F, eq_T, eq_F, ltm_T, ltm_F, lem_T, lem_F, eqm_F, meq_F, cl_nI, nle_T, nle_F, nlt_T, nlt_F, ↓reduceIte, or_true, true_or, or_false, false_or, and_true, true_and, and_false, false_and, not_true_eq_false, not_false_eq_true, or_self, and_self, true_implies, ite_self, s1]
    · rw [if_neg (by omega)] at r0
      obtain ⟨st, hst, e1, e2⟩ : ∃ st : Nat, st < 256 ∧ w.1 0 4 0 = nI st ∧ w.1 32 11 8 = nI st := by
        obtain ⟨dy, wt, fa, em, sh0, st, k1, k2, k3, k4, k5, k6, -, -, -, -, -, ⟨b6, c6⟩, -⟩ := h4
        exact ⟨st, k6, b6, c6⟩
      have hV : 2 ^ nv ≤ 2 ^ 8 := Nat.pow_le_pow_right (by omega) q1
      have hV0 : 0 < 2 ^ nv := Nat.pow_pos (by omega)
      obtain ⟨P, hP⟩ := fin_ch (Q := fun i p => (∀ T, ∃ T', f7_isPeaceful (nI i) (nI t) (sO w 1 T) = some (if p then 1 else 0, sO w 1 T')) ∧ ∀ W b rec, ML g (w.1 g) (w.2.1 g) (w.1 32) W → (∀ k, k < 103 → W.1 32 31 k = w.1 32 11 k) → f8_away_70 (nI t) rec b (nI i) (sA W 32 11 (w.1 32 11)) = rec (if p then nI i else b) (nI i + 1) (sA W 32 11 (w.1 32 11))) true (2 ^ nv) (fun i hi => one_away (B := 99 * n) (by omega) (by omega) (by omega) h4 h30 ⟨h1, h2.1, rfl, rfl⟩ ⟨h1, rfl, rfl, fun _ _ => rfl⟩)
      obtain ⟨T', z1⟩ := cs_ok (A := fun s => decide (nI s &&& nI st = 0)) (P := P) (w := w) (V := 2 ^ nv) hV (fun s hs => by rw [e1]; exact decide_eq_true_iff) (fun i hi => (hP i hi).1) hV0 9 0 100000 (w.1 1) (by omega) (by omega) (fun _ _ _ => Nat.zero_le _)
      rw [sO_id] at z1
      have z2 := md_ok (a := t) (A := fun s => decide (nI s &&& nI st = 0)) (P := P) (W := sA (sO w 1 T') 32 31 (cpr (w.1 32 11) (w.1 32 31) 103)) (N0 := w.1 32 11) q1 (by rw [ky_sA (by omega), sO_n (by omega)]; exact s4) (fun s hs => by rw [W31 8 (by omega), e2]; exact decide_eq_true_iff) (fun i hi b rec => (hP i hi).2 _ b rec ⟨h1, by rw [ob_sA (by omega), sO_n (by omega)], by rw [sA_2, sO_2], fun k hk => by rw [ky_sA (by omega), sO_n (by omega)]⟩ W31) (2 ^ nv) 0 100000 (by omega) (by omega)
      refine ⟨bI (bst (fun s => decide (nI s &&& nI st = 0) && P s) (2 ^ nv)), sO w 1 T', _, ?_, ?_, fin_rel2 h T'⟩
      · unfold f7_away f6_all
        simp (disch := omega) only [bE, bO, bV, bK, nI_lit, nI_add, lt_T, lt_F, le_T, le_F, eq_T, eq_F, ltm_T, ltm_F, lem_T, lem_F, eqm_F, meq_F, cl_nI, nle_T, nle_F, nlt_T, nlt_F, ↓reduceIte, or_true, true_or, or_false, false_or, and_true, true_and, and_false, false_and, not_true_eq_false, not_false_eq_true, or_self, and_self, true_implies, ite_self, rk_g h1 h2.1, r0, r4]
        have sm := sh1m nv (by omega)
        rw [show jshl (nI 1) (nI nv) - nI 1 = nI (2 ^ nv - 1) from sm]
        exact z1
      · unfold f8_away
        rw [in1_ok (m := 30) (b := 30) _ rfl, if_pos ha]
        have z := save_T w T'
        simp (disch := omega) only [bE, bO, bV, bK, nI_lit, nI_add, lt_T, lt_F, le_T, le_F, eq_T, eq_F, ltm_T, ltm_F, lem_T, lem_F, eqm_F, meq_F, cl_nI, nle_T, nle_F, nlt_T, nlt_F, ↓reduceIte, or_true, true_or, or_false, false_or, and_true, true_and, and_false, false_and, not_true_eq_false, not_false_eq_true, or_self, and_self, true_implies, ite_self, sO_n, s1, z]
        exact z2
  · refine ⟨-1000000002, w, w, ?_, ?_, h.next (by omega)⟩
    · unfold f7_away
      by_cases hb : a < 1
      · rw [if_pos hb]
      · rw [if_neg hb, if_neg (show ¬ a ≤ 30 from fun z => ha ⟨Int32.not_lt.mp hb, z⟩)]
    · unfold f8_away
      rw [in1_ok (m := 30) (b := 30) _ rfl, if_neg ha]
      rfl
