/-! the least feet: the class's way -/
theorem jmin_ok {a b : Nat} (ha : a < 2147483648) (hb : b < 2147483648) : jmin (nI a) (nI b) = nI (min a b) := by
  unfold jmin
  by_cases h : a ≤ b
  · rw [if_neg (show ¬ nI b < nI a from Int32.not_lt.mpr (nI_le h hb)), Nat.min_eq_left h]
  · rw [if_pos (show nI b < nI a from (nI_ltI hb ha).mpr (by omega)), Nat.min_eq_right (by omega)]
theorem jmax0 {k Y : Nat} (hk : k < 1000) (hY : Y < 1000) : jmax 0 (nI k - nI Y) = nI (k - Y) := by
  unfold jmax
  by_cases h : Y < k
  · rw [pk_sub (by omega), if_pos (show (0 : Int32) < nI (k - Y) from nI_lt (a := 0) (by omega) (by omega))]
  · rw [if_neg (show ¬ (0 : Int32) < nI k - nI Y from fun z => by
      rw [Int32.lt_iff_toInt_lt, pk_sub_toInt (by omega) (by omega)] at z
      have e : (0 : Int32).toInt = 0 := rfl
      omega), show k - Y = 0 by omega]
    rfl
theorem tb_clr : ∀ m, m < 256 → ∀ v, v < 8 → ∀ x, x < 8 → tb (clr m v) x = (tb m x && !decide (x = v)) := by decide +kernel
theorem tb_all : ∀ k, k < 9 → ∀ x, x < 8 → tb (2 ^ k - 1) x = decide (x < k) := by decide +kernel
section Feet
variable {nv K Y I F Fo : Nat} {ro pe fe fs fg : Nat → Nat} {M : Nat → Nat → Int32} {w : Mem} {g : Nat}
theorem RG31 (h : RG nv K Y I F Fo ro pe fe fs fg (w.1 g) (w.2.1 g) M) (h1 : g = 24 ∨ g = 25) (C : Nat → Int32) : RG nv K Y I F Fo ro pe fe fs fg ((sA w 31 0 C).1 g) ((sA w 31 0 C).2.1 g) M := by
  rw [ob_sA (by omega), sA_2]; exact h
theorem cfog_ok (h : RG nv K Y I F Fo ro pe fe fs fg (w.1 g) (w.2.1 g) M) {t : Nat} (ht : t < 2147483648) : f6_isFog g (nI t) w = some (if anyB Fo fg t then nI 1 else nI 0, w) := by
  have m2 := mk_ok (d := g) (k := 12) (w := w) (fun k hk => (h.2.2.2.2.2.2.2.2.2.2.1 k hk).1) h.2.2.2.2.2.2.2.2.2.2.2.2 ht
  unfold f6_isFog
  rw [m2, bO]
  cases anyB Fo fg t
  · rw [if_neg (by decide), if_neg (by decide)]
  · rw [if_pos rfl, if_neg (by decide)]
theorem fr17 (h : RG nv K Y I F Fo ro pe fe fs fg (w.1 g) (w.2.1 g) M) {k s0 : Nat} {c : Nat → Nat} (hk : k ≤ 10) (hc : ∀ j, j < k → c j < 8 ∧ w.1 31 0 j = nI (c j)) : ∀ i j n S, j + i = k → i < n → s0 ≤ j → S < 256 → (∀ x, x < 8 → (tb S x = true ↔ x < nv ∧ ∀ a, s0 ≤ a → a < j → c a ≠ x)) → ∃ S', S' < 256 ∧ f4_freeOn_17 g (nI k) n (nI S) (nI j) w = f4_freeOn_53 g (nI k) (nI S') w ∧ (∀ x, x < 8 → (tb S' x = true ↔ x < nv ∧ ∀ a, s0 ≤ a → a < k → c a ≠ x)) := by
  intro i
  induction i with
  | zero =>
    intro j n S hj hn hs hS hx
    obtain ⟨n, rfl⟩ : ∃ z, n = z + 1 := ⟨n - 1, by omega⟩
    obtain rfl : j = k := by omega
    refine ⟨S, hS, ?_, hx⟩
    rw [f4_freeOn_17]
    simp (disch := omega) only [bE, bO, bV, bK, nI_lit, nI_add, lt_T, lt_F, le_T, le_F, eq_T, eq_F, ltm_T, ltm_F, lem_T, lem_F, eqm_F, meq_F, cl_nI, nle_T, nle_F, nlt_T, nlt_F, ↓reduceIte, or_true, true_or, or_false, false_or, and_true, true_and, and_false, false_and, not_true_eq_false, not_false_eq_true, or_self, and_self, true_implies, ite_self]
  | succ i ih =>
    intro j n S hj hn hs hS hx
    obtain ⟨n, rfl⟩ : ∃ z, n = z + 1 := ⟨n - 1, by omega⟩
    obtain ⟨c1, c2⟩ := hc j (by omega)
    have b := bt_clr S hS (c j) c1
    obtain ⟨S', a1, a2, a3⟩ := ih (j + 1) n (clr S (c j)) (by omega) (by omega) (by omega) (bt_lt S hS (c j) c1).2 (fun x h8 => by
      rw [tb_clr S hS (c j) c1 x h8, Bool.and_eq_true, hx x h8]
      constructor
      · rintro ⟨⟨y1, y2⟩, y3⟩
        refine ⟨y1, fun a z1 z2 => ?_⟩
        by_cases hz : a = j
        · subst hz
          intro z
          rw [z, decide_eq_true rfl] at y3
          cases y3
        · exact y2 a z1 (by omega)
      · rintro ⟨y1, y2⟩
        refine ⟨⟨y1, fun a z1 z2 => y2 a z1 (by omega)⟩, ?_⟩
        rw [decide_eq_false (fun z => y2 j hs (by omega) z.symm)]; rfl)
    refine ⟨S', a1, ?_, a3⟩
    rw [f4_freeOn_17]
    simp (disch := omega) only [bE, bO, bV, bK, nI_lit, nI_add, lt_T, lt_F, le_T, le_F, eq_T, eq_F, ltm_T, ltm_F, lem_T, lem_F, eqm_F, meq_F, cl_nI, nle_T, nle_F, nlt_T, nlt_F, ↓reduceIte, or_true, true_or, or_false, false_or, and_true, true_and, and_false, false_and, not_true_eq_false, not_false_eq_true, or_self, and_self, true_implies, ite_self, c2, b]
    exact a2
theorem fr68 (h : RG nv K Y I F Fo ro pe fe fs fg (w.1 g) (w.2.1 g) M) {b : Bool} {a2 : Int32} : ∀ i v n S, v + i = nv → i < n → S < 256 → ∃ S', S' < 256 ∧ f4_freeOn_68 g a2 n (nI S) (if b then nI 1 else nI 0) (nI v) w = some (nI S', w) ∧ (∀ x, x < 8 → (tb S' x = true ↔ tb S x = true ∧ ¬ (b = true ∧ v ≤ x ∧ x < nv ∧ 0 < ro x))) := by
  have hnv := h.1.1
  have e4 := h.2.2.2.2.2.1.1
  intro i
  induction i with
  | zero =>
    intro v n S hv hn hS
    obtain ⟨n, rfl⟩ : ∃ z, n = z + 1 := ⟨n - 1, by omega⟩
    refine ⟨S, hS, ?_, fun x hx => ⟨fun z => ⟨z, fun q => by omega⟩, fun z => z.1⟩⟩
    rw [f4_freeOn_68]
    simp (disch := omega) only [bE, bO, bV, bK, nI_lit, nI_add, lt_T, lt_F, le_T, le_F, eq_T, eq_F, ltm_T, ltm_F, lem_T, lem_F, eqm_F, meq_F, cl_nI, nle_T, nle_F, nlt_T, nlt_F, ↓reduceIte, or_true, true_or, or_false, false_or, and_true, true_and, and_false, false_and, not_true_eq_false, not_false_eq_true, or_self, and_self, true_implies, ite_self, e4]
  | succ i ih =>
    intro v n S hv hn hS
    obtain ⟨n, rfl⟩ : ∃ z, n = z + 1 := ⟨n - 1, by omega⟩
    obtain ⟨⟨y1, -⟩, ⟨y2, -⟩, -⟩ := h.2.2.2.2.2.2.2.2.1 v (by omega)
    rw [f4_freeOn_68]
    by_cases hb : b = true ∧ 0 < ro v
    · obtain ⟨rfl, hr⟩ := hb
      have bc := bt_clr S hS v (by omega)
      obtain ⟨S', a1, a2, a3⟩ := ih (v + 1) n (clr S v) (by omega) (by omega) (bt_lt S hS v (by omega)).2
      refine ⟨S', a1, ?_, fun x hx => ?_⟩
      · rw [if_pos rfl] at a2 ⊢
        simp (disch := omega) only [bE, bO, bV, bK, nI_lit, nI_add, lt_T, lt_F, le_T, le_F, eq_T, eq_F, ltm_T, ltm_F, lem_T, lem_F, eqm_F, meq_F, cl_nI, nle_T, nle_F, nlt_T, nlt_F, ↓reduceIte, or_true, true_or, or_false, false_or, and_true, true_and, and_false, false_and, not_true_eq_false, not_false_eq_true, or_self, and_self, true_implies, ite_self, e4, y2, bc]
        exact a2
      · rw [a3 x hx, tb_clr S hS v (by omega) x hx, Bool.and_eq_true]
        by_cases hz : x = v
        · subst hz
          rw [decide_eq_true rfl]
          exact ⟨fun z => (by cases z.1.2), fun z => absurd ⟨rfl, Nat.le_refl _, by omega, hr⟩ z.2⟩
        · rw [decide_eq_false hz]
          exact ⟨fun z => ⟨z.1.1, fun q => z.2 ⟨q.1, by omega, q.2.2⟩⟩, fun z => ⟨⟨z.1, rfl⟩, fun q => z.2 ⟨q.1, by omega, q.2.2⟩⟩⟩
    · obtain ⟨S', a1, a2, a3⟩ := ih (v + 1) n S (by omega) (by omega) hS
      refine ⟨S', a1, ?_, fun x hx => ?_⟩
      · cases b with
        | false =>
          rw [if_neg (show ¬ (false = true) by decide)] at a2 ⊢
          simp (disch := omega) only [bE, bO, bV, bK, nI_lit, nI_add, lt_T, lt_F, le_T, le_F, eq_T, eq_F, ltm_T, ltm_F, lem_T, lem_F, eqm_F, meq_F, cl_nI, nle_T, nle_F, nlt_T, nlt_F, ↓reduceIte, or_true, true_or, or_false, false_or, and_true, true_and, and_false, false_and, not_true_eq_false, not_false_eq_true, or_self, and_self, true_implies, ite_self, e4]
          exact a2
        | true =>
          have hr : ro v = 0 := by
            by_cases hz : 0 < ro v
            · exact absurd ⟨rfl, hz⟩ hb
            · omega
          rw [if_pos rfl] at a2 ⊢
          simp (disch := omega) only [bE, bO, bV, bK, nI_lit, nI_add, lt_T, lt_F, le_T, le_F, eq_T, eq_F, ltm_T, ltm_F, lem_T, lem_F, eqm_F, meq_F, cl_nI, nle_T, nle_F, nlt_T, nlt_F, ↓reduceIte, or_true, true_or, or_false, false_or, and_true, true_and, and_false, false_and, not_true_eq_false, not_false_eq_true, or_self, and_self, true_implies, ite_self, e4, y2, hr]
          exact a2
      · rw [a3 x hx]
        by_cases hz : x = v
        · subst hz
          exact ⟨fun z => ⟨z.1, fun q => hb ⟨q.1, q.2.2.2⟩⟩, fun z => ⟨z.1, fun q => by omega⟩⟩
        · exact ⟨fun z => ⟨z.1, fun q => z.2 ⟨q.1, by omega, q.2.2⟩⟩, fun z => ⟨z.1, fun q => z.2 ⟨q.1, by omega, q.2.2⟩⟩⟩
theorem free_ok (h : RG nv K Y I F Fo ro pe fe fs fg (w.1 g) (w.2.1 g) M) {k dy : Nat} {c : Nat → Nat} (hk : k ≤ 10) (hdy : dy < 100000) (e1 : w.1 31 1 0 = nI dy) (hc : ∀ j, j < k → c j < 8 ∧ w.1 31 0 j = nI (c j)) : ∃ S, S < 256 ∧ f4_freeOn g (nI k) w = some (nI S, w) ∧ ∀ x, x < 8 → tb S x = fr nv Y ro (fun j => anyB Fo fg (dy + j)) c k x := by
  have hnv := h.1.1
  have hY := h.1.2.2.1
  have e4 := h.2.2.2.2.2.1.1
  have e2 := h.2.2.2.1.1
  have h256 : ∀ k, k < 9 → 2 ^ k - 1 < 256 := by decide
  obtain ⟨S1, a1, a2, a3⟩ := fr17 h (s0 := k - Y) hk hc (k - (k - Y)) (k - Y) 100000 (2 ^ nv - 1) (by omega) (by omega) (by omega) (h256 nv (by omega)) (fun x hx => by
    rw [tb_all nv (by omega) x hx, decide_eq_true_iff]
    exact ⟨fun z => ⟨z, fun a q1 q2 => by omega⟩, fun z => z.1⟩)
  have f := cfog_ok h (t := dy + k) (by omega)
  obtain ⟨S2, b1, b2, b3⟩ := fr68 h (b := anyB Fo fg (dy + k)) (a2 := nI k) nv 0 100000 S1 (by omega) (by omega) a1
  refine ⟨S2, b1, ?_, fun x hx => ?_⟩
  · unfold f4_freeOn f6_all
    rw [bO, e4, e2, sh1m nv (by omega), jmax0 (by omega) (by omega)]
    simp only [bE]
    rw [a2]
    unfold f4_freeOn_53
    rw [e1, nI_add, f, bO]
    exact b2
  · rw [Bool.eq_iff_iff, b3 x hx, a3 x hx, fr_iff]
    constructor
    · rintro ⟨⟨z1, z2⟩, z3⟩
      exact ⟨z1, fun j q1 q2 => z2 j (by omega) q1, fun q => z3 ⟨q.1, by omega, z1, q.2⟩⟩
    · rintro ⟨z1, z2, z3⟩
      exact ⟨⟨z1, fun a q1 q2 => z2 a q2 (by omega)⟩, fun q => z3 ⟨q.1, q.2.2.2⟩⟩
/-- the nearest of a set -/
def NR (ro : Nat → Nat) (S a b : Nat) (r : Int32) : Prop := (r = -nI 1 ∧ ∀ x, x < b → tb S x = true → ro x < a) ∨ ∃ v, v < b ∧ r = nI v ∧ tb S v = true ∧ a ≤ ro v ∧ ∀ x, x < b → tb S x = true → a ≤ ro x → ro v ≤ ro x
theorem nr5 (h : RG nv K Y I F Fo ro pe fe fs fg (w.1 g) (w.2.1 g) M) {S a : Nat} (hS : S < 256) (ha : a < 100) : ∀ i v n r, v + i = nv → i < n → NR ro S a v r → ∃ r', f4_nearestOf_5 g (nI S) (nI a) n r (nI v) w = some (r', w) ∧ NR ro S a nv r' := by
  have hnv := h.1.1
  have e4 := h.2.2.2.2.2.1.1
  intro i
  induction i with
  | zero =>
    intro v n r hv hn hr
    obtain ⟨n, rfl⟩ : ∃ z, n = z + 1 := ⟨n - 1, by omega⟩
    obtain rfl : v = nv := by omega
    refine ⟨r, ?_, hr⟩
    rw [f4_nearestOf_5]
    simp (disch := omega) only [bE, bO, bV, bK, nI_lit, nI_add, lt_T, lt_F, le_T, le_F, eq_T, eq_F, ltm_T, ltm_F, lem_T, lem_F, eqm_F, meq_F, cl_nI, nle_T, nle_F, nlt_T, nlt_F, ↓reduceIte, or_true, true_or, or_false, false_or, and_true, true_and, and_false, false_and, not_true_eq_false, not_false_eq_true, or_self, and_self, true_implies, ite_self, e4]
  | succ i ih =>
    intro v n r hv hn hr
    obtain ⟨n, rfl⟩ : ∃ z, n = z + 1 := ⟨n - 1, by omega⟩
    obtain ⟨⟨y1, -⟩, ⟨y2, -⟩, -⟩ := h.2.2.2.2.2.2.2.2.1 v (by omega)
    have b := bt_sh S hS v (by omega)
    rw [f4_nearestOf_5]
    cases hb : tb S v with
    | false =>
      rw [hb, if_neg (by decide)] at b
      obtain ⟨r', a1, a2⟩ := ih (v + 1) n r (by omega) (by omega) (by
        rcases hr with ⟨z1, z2⟩ | ⟨u, z1, z2, z3, z4, z5⟩
        · refine Or.inl ⟨z1, fun x q1 q2 => ?_⟩
          by_cases hz : x = v
          · subst hz; rw [hb] at q2; cases q2
          · exact z2 x (by omega) q2
        · refine Or.inr ⟨u, by omega, z2, z3, z4, fun x q1 q2 q3 => ?_⟩
          by_cases hz : x = v
          · subst hz; rw [hb] at q2; cases q2
          · exact z5 x (by omega) q2 q3)
      refine ⟨r', ?_, a2⟩
      simp (disch := omega) only [bE, bO, bV, bK, nI_lit, nI_add, lt_T, lt_F, le_T, le_F, eq_T, eq_F, ltm_T, ltm_F, lem_T, lem_F, eqm_F, meq_F, cl_nI, nle_T, nle_F, nlt_T, nlt_F, ↓reduceIte, or_true, true_or, or_false, false_or, and_true, true_and, and_false, false_and, not_true_eq_false, not_false_eq_true, or_self, and_self, true_implies, ite_self, e4, b]
      exact a1
    | true =>
      rw [hb, if_pos rfl] at b
      by_cases h2 : a ≤ ro v
      · rcases hr with ⟨z1, z2⟩ | ⟨u, z1, z2, z3, z4, z5⟩
        · obtain ⟨r', a1, a2⟩ := ih (v + 1) n (nI v) (by omega) (by omega) (Or.inr ⟨v, by omega, rfl, hb, h2, fun x q1 q2 q3 => by
            by_cases hz : x = v
            · subst hz; exact Nat.le_refl _
            · have := z2 x (by omega) q2; omega⟩)
          refine ⟨r', ?_, a2⟩
          simp (disch := omega) only [bE, bO, bV, bK, nI_lit, nI_add, lt_T, lt_F, le_T, le_F, eq_T, eq_F, ltm_T, ltm_F, lem_T, lem_F, eqm_F, meq_F, cl_nI, nle_T, nle_F, nlt_T, nlt_F, ↓reduceIte, or_true, true_or, or_false, false_or, and_true, true_and, and_false, false_and, not_true_eq_false, not_false_eq_true, or_self, and_self, true_implies, ite_self, e4, b, y2, z1]
          exact a1
        · obtain ⟨⟨t1, -⟩, ⟨t2, -⟩, -⟩ := h.2.2.2.2.2.2.2.2.1 u (by omega)
          by_cases h3 : ro u ≤ ro v
          · obtain ⟨r', a1, a2⟩ := ih (v + 1) n r (by omega) (by omega) (Or.inr ⟨u, by omega, z2, z3, z4, fun x q1 q2 q3 => by
              by_cases hz : x = v
              · subst hz; exact h3
              · exact z5 x (by omega) q2 q3⟩)
            refine ⟨r', ?_, a2⟩
            subst z2
            simp (disch := omega) only [bE, bO, bV, bK, nI_lit, nI_add, lt_T, lt_F, le_T, le_F, eq_T, eq_F, ltm_T, ltm_F, lem_T, lem_F, eqm_F, meq_F, cl_nI, nle_T, nle_F, nlt_T, nlt_F, ↓reduceIte, or_true, true_or, or_false, false_or, and_true, true_and, and_false, false_and, not_true_eq_false, not_false_eq_true, or_self, and_self, true_implies, ite_self, e4, b, y2, t2]
            exact a1
          · obtain ⟨r', a1, a2⟩ := ih (v + 1) n (nI v) (by omega) (by omega) (Or.inr ⟨v, by omega, rfl, hb, h2, fun x q1 q2 q3 => by
              by_cases hz : x = v
              · subst hz; exact Nat.le_refl _
              · have := z5 x (by omega) q2 q3; omega⟩)
            refine ⟨r', ?_, a2⟩
            subst z2
            simp (disch := omega) only [bE, bO, bV, bK, nI_lit, nI_add, lt_T, lt_F, le_T, le_F, eq_T, eq_F, ltm_T, ltm_F, lem_T, lem_F, eqm_F, meq_F, cl_nI, nle_T, nle_F, nlt_T, nlt_F, ↓reduceIte, or_true, true_or, or_false, false_or, and_true, true_and, and_false, false_and, not_true_eq_false, not_false_eq_true, or_self, and_self, true_implies, ite_self, e4, b, y2, t2]
            exact a1
      · obtain ⟨r', a1, a2⟩ := ih (v + 1) n r (by omega) (by omega) (by
          rcases hr with ⟨z1, z2⟩ | ⟨u, z1, z2, z3, z4, z5⟩
          · refine Or.inl ⟨z1, fun x q1 q2 => ?_⟩
            by_cases hz : x = v
            · subst hz; omega
            · exact z2 x (by omega) q2
          · refine Or.inr ⟨u, by omega, z2, z3, z4, fun x q1 q2 q3 => ?_⟩
            by_cases hz : x = v
            · subst hz; omega
            · exact z5 x (by omega) q2 q3)
        refine ⟨r', ?_, a2⟩
        simp (disch := omega) only [bE, bO, bV, bK, nI_lit, nI_add, lt_T, lt_F, le_T, le_F, eq_T, eq_F, ltm_T, ltm_F, lem_T, lem_F, eqm_F, meq_F, cl_nI, nle_T, nle_F, nlt_T, nlt_F, ↓reduceIte, or_true, true_or, or_false, false_or, and_true, true_and, and_false, false_and, not_true_eq_false, not_false_eq_true, or_self, and_self, true_implies, ite_self, e4, b, y2]
        exact a1
theorem near_ok (h : RG nv K Y I F Fo ro pe fe fs fg (w.1 g) (w.2.1 g) M) {S a : Nat} (hS : S < 256) (ha : a < 100) : ∃ r, f4_nearestOf g (nI S) (nI a) w = some (r, w) ∧ NR ro S a nv r := nr5 h hS ha nv 0 100000 (-nI 1) (by omega) (by have := h.1.1; omega) (Or.inl ⟨rfl, fun x hx => by omega⟩)
end Feet
