/-! the least feet: the bounds are below it; what was chosen, spent -/
def dgt (c : Nat → Nat) (d i : Nat) : Nat := if i < d then c (d - 1 - i) else 8
def lat (c : Nat → Nat) (d : Nat) : Nat := 729 * dgt c d 3 + 81 * dgt c d 2 + 9 * dgt c d 1 + dgt c d 0
def spt (ro c : Nat → Nat) : Nat → Nat
  | 0 => 0
  | d + 1 => spt ro c d + 2 * ro (c d)
theorem dgt_0 (c : Nat → Nat) (d x : Nat) : dgt (uN c d x) (d + 1) 0 = x := by
  unfold dgt
  rw [if_pos (by omega), show d + 1 - 1 - 0 = d by omega, uN_s]
theorem dgt_s (c : Nat → Nat) (d x i : Nat) : dgt (uN c d x) (d + 1) (i + 1) = dgt c d i := by
  unfold dgt
  by_cases h : i < d
  · rw [if_pos (by omega), if_pos h, uN_n (by omega), show d + 1 - 1 - (i + 1) = d - 1 - i by omega]
  · rw [if_neg (by omega), if_neg h]
theorem dgt_le {c : Nat → Nat} {d : Nat} (h : ∀ j, j < d → c j < 8) (i : Nat) : dgt c d i ≤ 8 := by
  unfold dgt
  split
  · have := h (d - 1 - i) (by omega); omega
  · omega
theorem lat_s {c : Nat → Nat} {d x : Nat} (h : ∀ j, j < d → c j < 8) : lat (uN c d x) (d + 1) = lat c d % 729 * 9 + x := by
  unfold lat
  rw [dgt_0, dgt_s, dgt_s, dgt_s]
  have h0 := dgt_le h 0
  have h1 := dgt_le h 1
  have h2 := dgt_le h 2
  have h3 := dgt_le h 3
  omega
theorem lat_lt {c : Nat → Nat} {d : Nat} (h : ∀ j, j < d → c j < 8) : lat c d < 6561 := by
  unfold lat
  have h0 := dgt_le h 0
  have h1 := dgt_le h 1
  have h2 := dgt_le h 2
  have h3 := dgt_le h 3
  omega
theorem dgt_fr {nv Y : Nat} {ro : Nat → Nat} {fog : Nat → Bool} {c : Nat → Nat} {d x i : Nat} (hnv : nv ≤ 8) (h : fr nv Y ro fog c d x = true) (hi : i < Y) : dgt c d i ≠ x := by
  obtain ⟨a, b, -⟩ := fr_iff.mp h
  unfold dgt
  split
  · exact b (d - 1 - i) (by omega) (by omega)
  · omega
theorem wsb_fr {nv Y : Nat} {ro : Nat → Nat} {fog : Nat → Bool} {c : Nat → Nat} {d x : Nat} (hnv : nv ≤ 8) (hc : ∀ j, j < d → c j < 8) (h : fr nv Y ro fog c d x = true) : wsb Y x (lat c d) = false := by
  have h0 := dgt_le hc 0
  have h1 := dgt_le hc 1
  have h2 := dgt_le hc 2
  have h3 := dgt_le hc 3
  have e : lat c d = 729 * dgt c d 3 + 81 * dgt c d 2 + 9 * dgt c d 1 + dgt c d 0 := rfl
  have e0 : lat c d % 9 = dgt c d 0 := by omega
  have e1 : lat c d / 9 % 9 = dgt c d 1 := by omega
  have e2 : lat c d / 81 % 9 = dgt c d 2 := by omega
  have e3 : lat c d / 729 = dgt c d 3 := by omega
  unfold wsb
  rw [e0, e1, e2, e3]
  have k : ∀ i, (decide (i < Y) && decide (dgt c d i = x)) = false := fun i => by
    by_cases hi : i < Y
    · rw [decide_eq_false (dgt_fr hnv h hi), Bool.and_false]
    · rw [decide_eq_false hi, Bool.false_and]
  rw [k 0, k 1, k 2, k 3]; rfl
theorem myg_fr {nv Y : Nat} {ro : Nat → Nat} {fog : Nat → Bool} {c : Nat → Nat} {d x : Nat} (h : fr nv Y ro fog c d x = true) : myg ro fog x d = true := by
  obtain ⟨a, b, e⟩ := fr_iff.mp h
  unfold myg
  by_cases hz : ro x = 0
  · rw [decide_eq_true hz, Bool.true_or]
  · cases hf : fog d with
    | false => rw [Bool.not_false, Bool.or_true]
    | true => exact absurd ⟨hf, by omega⟩ e
theorem lwf_opt {nv Y : Nat} {ro : Nat → Nat} {fog : Nat → Bool} (hnv : nv ≤ 8) : ∀ r d c, (∀ j, j < d → c j < 8) → lwf nv Y ro fog r d (lat c d) ≤ opt nv Y ro fog r d c := by
  intro r
  induction r with
  | zero => intro d c hc; exact Nat.le_refl _
  | succ r ih =>
    intro d c hc
    rcases opt_ex (nv := nv) (Y := Y) (ro := ro) (fog := fog) r d c with e | ⟨x, hx, e⟩
    · rw [e]; exact lwf_le _ _ _
    · have hx1 := (fr_iff.mp hx).1
      have i1 := ih (d + 1) (uN c d x) (fun j hj => by
        by_cases hz : j = d
        · subst hz; rw [uN_s]; omega
        · rw [uN_n hz]; exact hc j (by omega))
      rw [lat_s hc] at i1
      have l := mnv_lb (P := fun v => !wsb Y v (lat c d) && myg ro fog v d) (f := fun v => 2 * ro v + lwf nv Y ro fog r (d + 1) (lat c d % 729 * 9 + v)) (x := x) (by show (!wsb Y x (lat c d) && myg ro fog x d) = true; rw [wsb_fr hnv hc hx, myg_fr hx]; rfl) nv hx1
      have l2 : lwf nv Y ro fog (r + 1) d (lat c d) ≤ 2 * ro x + lwf nv Y ro fog r (d + 1) (lat c d % 729 * 9 + x) := l
      rw [e]
      omega
theorem spt_le {ro c : Nat → Nat} {nv : Nat} (hr : ∀ v, v < nv → ro v ≤ 9) : ∀ d, (∀ j, j < d → c j < nv) → spt ro c d ≤ 18 * d := by
  intro d
  induction d with
  | zero => intro _; exact Nat.le_refl _
  | succ d ih =>
    intro hc
    have h1 := ih (fun j hj => hc j (by omega))
    have h2 := hr (c d) (hc d (by omega))
    rw [spt]
    omega
theorem spt_congr {ro c c' : Nat → Nat} : ∀ d, (∀ j, j < d → c j = c' j) → spt ro c d = spt ro c' d := by
  intro d
  induction d with
  | zero => intro _; rfl
  | succ d ih =>
    intro h
    rw [spt, spt, ih (fun j hj => h j (by omega)), h d (by omega)]
section Low
variable {nv Y Fo dy : Nat} {ro fg : Nat → Nat} {w u : Mem}
theorem sp4 (h : PF nv Y Fo dy ro fg u) {d : Nat} {c : Nat → Nat} (hd : d ≤ 10) (hc : ∀ j, j < d → c j < nv ∧ u.1 32 34 j = nI (c j)) : ∀ i j n, j + i = d → i < n → f8_spent_4 (nI d) n (nI (spt ro c j)) (nI j) u = some (nI (spt ro c d), u) := by
  have hnv := h.1.1
  intro i
  induction i with
  | zero =>
    intro j n hj hn
    obtain ⟨n, rfl⟩ : ∃ z, n = z + 1 := ⟨n - 1, by omega⟩
    obtain rfl : j = d := by omega
    rw [f8_spent_4, if_pos (Int32.le_refl _)]
  | succ i ih =>
    intro j n hj hn
    obtain ⟨n, rfl⟩ : ∃ z, n = z + 1 := ⟨n - 1, by omega⟩
    obtain ⟨c1, c2⟩ := hc j (by omega)
    obtain ⟨y1, y2⟩ := h.2.2.2.2.2.1 (c j) c1
    have i1 := ih (j + 1) n (by omega) (by omega)
    rw [f8_spent_4]
    simp (disch := omega) only [bE, bO, bV, bK, nI_lit, nI_add, lt_T, lt_F, le_T, le_F, eq_T, eq_F, ltm_T, ltm_F, lem_T, lem_F, eqm_F, meq_F, cl_nI, nle_T, nle_F, nlt_T, nlt_F, ↓reduceIte, or_true, true_or, or_false, false_or, and_true, true_and, and_false, false_and, not_true_eq_false, not_false_eq_true, or_self, and_self, true_implies, ite_self, c2, y2, pk_mul]
    exact i1
theorem sp_ok (h : PF nv Y Fo dy ro fg u) {d : Nat} {c : Nat → Nat} (hd : d ≤ 10) (hc : ∀ j, j < d → c j < nv ∧ u.1 32 34 j = nI (c j)) : f8_spent (nI d) u = some (nI (spt ro c d), u) := sp4 h hd hc d 0 100000 (by omega) (by omega)
theorem wc22 {d v s0 : Nat} {c : Nat → Nat} (hd : d ≤ 10) (hv : v < 8) (hc : ∀ j, j < d → c j < 8 ∧ u.1 32 34 j = nI (c j)) : ∀ i j n b, j + i = d → i < n → s0 ≤ j → (b = true ↔ ∃ a, s0 ≤ a ∧ a < j ∧ c a = v) → ∃ b', f8_wasChosen_22 (nI v) (nI d) n (if b then nI 1 else nI 0) (nI j) u = some (if b' then nI 1 else nI 0, u) ∧ (b' = true ↔ ∃ a, s0 ≤ a ∧ a < d ∧ c a = v) := by
  intro i
  induction i with
  | zero =>
    intro j n b hj hn hs hb
    obtain ⟨n, rfl⟩ : ∃ z, n = z + 1 := ⟨n - 1, by omega⟩
    obtain rfl : j = d := by omega
    refine ⟨b, ?_, hb⟩
    rw [f8_wasChosen_22, if_pos (Int32.le_refl _)]
    cases b with
    | false => rw [if_neg (by decide), if_neg (by decide)]
    | true => rw [if_pos rfl, if_neg (by decide)]
  | succ i ih =>
    intro j n b hj hn hs hb
    obtain ⟨n, rfl⟩ : ∃ z, n = z + 1 := ⟨n - 1, by omega⟩
    obtain ⟨c1, c2⟩ := hc j (by omega)
    rw [f8_wasChosen_22]
    cases b with
    | true =>
      obtain ⟨a, z1, z2, z3⟩ := hb.mp rfl
      obtain ⟨b', a1, a2⟩ := ih (j + 1) n true (by omega) (by omega) (by omega) ⟨fun _ => ⟨a, z1, by omega, z3⟩, fun _ => rfl⟩
      rw [if_pos rfl] at a1
      refine ⟨b', ?_, a2⟩
      rw [if_pos rfl]
      simp (disch := omega) only [bE, bO, bV, bK, nI_lit, nI_add, lt_T, lt_F, le_T, le_F, eq_T, eq_F, ltm_T, ltm_F, lem_T, lem_F, eqm_F, meq_F, cl_nI, nle_T, nle_F, nlt_T, nlt_F, ↓reduceIte, or_true, true_or, or_false, false_or, and_true, true_and, and_false, false_and, not_true_eq_false, not_false_eq_true, or_self, and_self, true_implies, ite_self]
      exact a1
    | false =>
      have hno : ¬ ∃ a, s0 ≤ a ∧ a < j ∧ c a = v := fun z => by cases hb.mpr z
      rw [if_neg (show ¬ (false = true) by decide)]
      by_cases hz : c j = v
      · obtain ⟨b', a1, a2⟩ := ih (j + 1) n true (by omega) (by omega) (by omega) ⟨fun _ => ⟨j, hs, by omega, hz⟩, fun _ => rfl⟩
        rw [if_pos rfl] at a1
        refine ⟨b', ?_, a2⟩
        simp (disch := omega) only [bE, bO, bV, bK, nI_lit, nI_add, lt_T, lt_F, le_T, le_F, eq_T, eq_F, ltm_T, ltm_F, lem_T, lem_F, eqm_F, meq_F, cl_nI, nle_T, nle_F, nlt_T, nlt_F, ↓reduceIte, or_true, true_or, or_false, false_or, and_true, true_and, and_false, false_and, not_true_eq_false, not_false_eq_true, or_self, and_self, true_implies, ite_self, c2, hz]
        exact a1
      · obtain ⟨b', a1, a2⟩ := ih (j + 1) n false (by omega) (by omega) (by omega) ⟨fun q => (by cases q), fun ⟨a, z1, z2, z3⟩ => by
          by_cases hq : a = j
          · subst hq; exact absurd z3 hz
          · exact absurd ⟨a, z1, by omega, z3⟩ hno⟩
        rw [if_neg (show ¬ (false = true) by decide)] at a1
        refine ⟨b', ?_, a2⟩
        simp (disch := omega) only [bE, bO, bV, bK, nI_lit, nI_add, lt_T, lt_F, le_T, le_F, eq_T, eq_F, ltm_T, ltm_F, lem_T, lem_F, eqm_F, meq_F, cl_nI, nle_T, nle_F, nlt_T, nlt_F, ↓reduceIte, or_true, true_or, or_false, false_or, and_true, true_and, and_false, false_and, not_true_eq_false, not_false_eq_true, or_self, and_self, true_implies, ite_self, c2]
        exact a1
theorem wc_ok (h : PF nv Y Fo dy ro fg u) {d v : Nat} {c : Nat → Nat} (hd : d ≤ 10) (hv : v < 8) (hc : ∀ j, j < d → c j < 8 ∧ u.1 32 34 j = nI (c j)) : ∃ b, f8_wasChosen (nI v) (nI d) u = some (if b then nI 1 else nI 0, u) ∧ (b = true ↔ ∃ a, a < d ∧ d ≤ a + Y ∧ c a = v) := by
  have hY := h.1.2.1
  have e1 := h.2.2.1
  obtain ⟨b, a1, a2⟩ := wc22 (s0 := d - Y) hd hv hc (d - (d - Y)) (d - Y) 100000 false (by omega) (by omega) (by omega) ⟨fun z => (by cases z), fun ⟨a, z1, z2, z3⟩ => by omega⟩
  refine ⟨b, ?_, a2.trans ⟨fun ⟨a, z1, z2, z3⟩ => ⟨a, z2, by omega, z3⟩, fun ⟨a, z1, z2, z3⟩ => ⟨a, by omega, z1, z3⟩⟩⟩
  rw [if_neg (show ¬ (false = true) by decide)] at a1
  rw [← a1]
  unfold f8_wasChosen
  rw [e1]
  by_cases hz : d ≤ Y
  · rw [if_pos (nI_le hz (by omega)), show d - Y = 0 by omega]; rfl
  · rw [if_neg (nI_ge (by omega) (by omega))]
    simp only [bE]
    rw [pk_sub (by omega)]; rfl
theorem la_ok {d : Nat} {c : Nat → Nat} (hd : d ≤ 10) (hc : ∀ j, j < d → c j < 8 ∧ u.1 32 34 j = nI (c j)) : f8_latest (nI d) u = some (nI (lat c d), u) := by
  have dp : ∀ i, i < d → dgt c d i = c (d - 1 - i) := fun i hi => if_pos hi
  have dn : ∀ i, ¬ i < d → dgt c d i = 8 := fun i hi => if_neg hi
  unfold f8_latest f8_latest_17 f8_latest_36 f8_latest_55 f8_latest_75 lat
  rcases (show d = 0 ∨ d = 1 ∨ d = 2 ∨ d = 3 ∨ 4 ≤ d by omega) with rfl | rfl | rfl | rfl | h4
  · rw [dn 0 (by omega), dn 1 (by omega), dn 2 (by omega), dn 3 (by omega)]
    simp (disch := omega) only [bE, bO, bV, bK, nI_lit, nI_add, lt_T, lt_F, le_T, le_F, eq_T, eq_F, ltm_T, ltm_F, lem_T, lem_F, eqm_F, meq_F, cl_nI, nle_T, nle_F, nlt_T, nlt_F, ↓reduceIte, or_true, true_or, or_false, false_or, and_true, true_and, and_false, false_and, not_true_eq_false, not_false_eq_true, or_self, and_self, true_implies, ite_self, pk_mul]
  · have e0 := (hc 0 (by omega)).2
    rw [dp 0 (by omega), dn 1 (by omega), dn 2 (by omega), dn 3 (by omega)]
    simp (disch := omega) only [bE, bO, bV, bK, nI_lit, nI_add, lt_T, lt_F, le_T, le_F, eq_T, eq_F, ltm_T, ltm_F, lem_T, lem_F, eqm_F, meq_F, cl_nI, nle_T, nle_F, nlt_T, nlt_F, ↓reduceIte, or_true, true_or, or_false, false_or, and_true, true_and, and_false, false_and, not_true_eq_false, not_false_eq_true, or_self, and_self, true_implies, ite_self, pk_sub, pk_mul, Nat.sub_self, e0]
  · have e0 := (hc 0 (by omega)).2
    have e1 := (hc 1 (by omega)).2
    rw [dp 0 (by omega), dp 1 (by omega), dn 2 (by omega), dn 3 (by omega)]
    simp (disch := omega) only [bE, bO, bV, bK, nI_lit, nI_add, lt_T, lt_F, le_T, le_F, eq_T, eq_F, ltm_T, ltm_F, lem_T, lem_F, eqm_F, meq_F, cl_nI, nle_T, nle_F, nlt_T, nlt_F, ↓reduceIte, or_true, true_or, or_false, false_or, and_true, true_and, and_false, false_and, not_true_eq_false, not_false_eq_true, or_self, and_self, true_implies, ite_self, pk_sub, pk_mul, show 2 - 1 = 1 from rfl, show 2 - 2 = 0 from rfl, show 1 - 1 = 0 from rfl, show 1 - 0 = 1 from rfl, e0, e1]
  · have e0 := (hc 0 (by omega)).2
    have e1 := (hc 1 (by omega)).2
    have e2 := (hc 2 (by omega)).2
    rw [dp 0 (by omega), dp 1 (by omega), dp 2 (by omega), dn 3 (by omega)]
    simp (disch := omega) only [bE, bO, bV, bK, nI_lit, nI_add, lt_T, lt_F, le_T, le_F, eq_T, eq_F, ltm_T, ltm_F, lem_T, lem_F, eqm_F, meq_F, cl_nI, nle_T, nle_F, nlt_T, nlt_F, ↓reduceIte, or_true, true_or, or_false, false_or, and_true, true_and, and_false, false_and, not_true_eq_false, not_false_eq_true, or_self, and_self, true_implies, ite_self, pk_sub, pk_mul, show 3 - 1 = 2 from rfl, show 3 - 2 = 1 from rfl, show 3 - 3 = 0 from rfl, show 2 - 0 = 2 from rfl, show 2 - 1 = 1 from rfl, show 2 - 2 = 0 from rfl, e0, e1, e2]
  · have e0 := (hc (d - 1) (by omega)).2
    have e1 := (hc (d - 2) (by omega)).2
    have e2 := (hc (d - 3) (by omega)).2
    have e3 := (hc (d - 4) (by omega)).2
    rw [dp 0 (by omega), dp 1 (by omega), dp 2 (by omega), dp 3 (by omega), show d - 1 - 0 = d - 1 by omega, show d - 1 - 1 = d - 2 by omega, show d - 1 - 2 = d - 3 by omega, show d - 1 - 3 = d - 4 by omega]
    simp (disch := omega) only [bE, bO, bV, bK, nI_lit, nI_add, lt_T, lt_F, le_T, le_F, eq_T, eq_F, ltm_T, ltm_F, lem_T, lem_F, eqm_F, meq_F, cl_nI, nle_T, nle_F, nlt_T, nlt_F, ↓reduceIte, or_true, true_or, or_false, false_or, and_true, true_and, and_false, false_and, not_true_eq_false, not_false_eq_true, or_self, and_self, true_implies, ite_self, pk_sub, pk_mul, e0, e1, e2, e3]
end Low
