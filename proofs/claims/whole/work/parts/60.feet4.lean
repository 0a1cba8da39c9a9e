/-! the least feet: the class's plan -/
def pl (nv Y : Nat) (ro : Nat → Nat) (fog : Nat → Bool) : Nat → Nat → (Nat → Nat) → (Nat → Nat)
  | 0, _, c => c
  | r + 1, m, c => pl nv Y ro fog r (m + 1) (uN c m (am (fr nv Y ro fog c m) (fun x => 2 * ro x + opt nv Y ro fog r (m + 1) (uN c m x)) nv))
section Feet
variable {nv K Y I F Fo : Nat} {ro pe fe fs fg : Nat → Nat} {M : Nat → Nat → Int32} {w : Mem} {g : Nat}
theorem ch_ok (h : RG nv K Y I F Fo ro pe fe fs fg (w.1 g) (w.2.1 g) M) (h1 : g = 24 ∨ g = 25) {N dy : Nat} {lf : Int32} (hN : N ≤ 10) (hdy : dy < 100000) (e1 : w.1 31 1 0 = nI dy) (e2 : w.1 31 2 0 = nI N) (e3 : w.1 31 3 0 = lf)
    (hlf : ∀ k, k < N → ¬ nI k < lf → ∀ j, k < j → j < N → anyB Fo fg (dy + j) = false) {k r S : Nat} {c : Nat → Nat} (hk : k + (r + 1) = N) (hS : S < 256) (hSf : ∀ x, x < 8 → tb S x = fr nv Y ro (fun j => anyB Fo fg (dy + j)) c k x) {C0 : Nat → Int32} (hc : ∀ j, j < k → c j < 8 ∧ C0 j = nI (c j)) {P : Nat → Bool} {f : Nat → Nat} (hP : P = fr nv Y ro (fun j => anyB Fo fg (dy + j)) c k) (hf : f = fun x => 2 * ro x + opt nv Y ro (fun j => anyB Fo fg (dy + j)) r (k + 1) (uN c k x)) :
    ∀ i v n C, v + i = nv → i < n → (∀ j, j < k → C j = C0 j) → ∃ C', f4_choose_32 g (nI k) n (nI S) (if mnv P f v < 1000000 then nI (am P f v) else -nI 1) (nI (mnv P f v)) (nI v) (sA w 31 0 C) = some (if mnv P f nv < 1000000 then nI (am P f nv) else -nI 1, sA w 31 0 C') ∧ ∀ j, j < k → C' j = C0 j := by
  have hnv := h.1.1
  have hg31 : g ≠ 31 := by omega
  have e4 : ∀ D, (sA w 31 0 D).1 g 4 0 = nI nv := fun D => by rw [ob_sA hg31]; exact h.2.2.2.2.2.1.1
  intro i
  induction i with
  | zero =>
    intro v n C hv hn hC
    obtain ⟨n, rfl⟩ : ∃ z, n = z + 1 := ⟨n - 1, by omega⟩
    obtain rfl : v = nv := by omega
    refine ⟨C, ?_, hC⟩
    rw [f4_choose_32]
    simp (disch := omega) only [bE, bO, bV, bK, nI_lit, nI_add, lt_T, lt_F, le_T, le_F, eq_T, eq_F, ltm_T, ltm_F, lem_T, lem_F, eqm_F, meq_F, cl_nI, nle_T, nle_F, nlt_T, nlt_F, ↓reduceIte, or_true, true_or, or_false, false_or, and_true, true_and, and_false, false_and, not_true_eq_false, not_false_eq_true, or_self, and_self, true_implies, ite_self, e4]
  | succ i ih =>
    intro v n C hv hn hC
    obtain ⟨n, rfl⟩ : ∃ z, n = z + 1 := ⟨n - 1, by omega⟩
    obtain ⟨⟨y1, -⟩, ⟨y2, -⟩, -⟩ := h.2.2.2.2.2.2.2.2.1 v (by omega)
    have y3 : ∀ D, (sA w 31 0 D).1 g 7 v = nI (ro v) := fun D => by rw [ob_sA hg31]; exact y2
    have b := bt_sh S hS v (by omega)
    have hml := mnv_le P f v
    rw [f4_choose_32]
    cases hb : tb S v with
    | false =>
      rw [hb, if_neg (by decide)] at b
      have hp : P v = false := by rw [hP, ← hSf v (by omega)]; exact hb
      obtain ⟨m1, m2⟩ := mnv_n (P := P) (f := f) (v := v) (fun z => by rw [hp] at z; cases z)
      obtain ⟨C', a1, a2⟩ := ih (v + 1) n C (by omega) (by omega) hC
      rw [m1, m2] at a1
      refine ⟨C', ?_, a2⟩
      simp (disch := omega) only [bE, bO, bV, bK, nI_lit, nI_add, lt_T, lt_F, le_T, le_F, eq_T, eq_F, ltm_T, ltm_F, lem_T, lem_F, eqm_F, meq_F, cl_nI, nle_T, nle_F, nlt_T, nlt_F, ↓reduceIte, or_true, true_or, or_false, false_or, and_true, true_and, and_false, false_and, not_true_eq_false, not_false_eq_true, or_self, and_self, true_implies, ite_self, e4, b]
      exact a1
    | true =>
      rw [hb, if_pos rfl] at b
      have hp : P v = true := by rw [hP, ← hSf v (by omega)]; exact hb
      obtain ⟨C1, l1, l2⟩ := lf_ok h h1 hN hdy e1 e2 e3 hlf r (k + 1) 24 (uN c k v) (upd C k (nI v)) (by omega) (by omega) (fun j hj => by
        by_cases hz : j = k
        · subst hz; rw [uN_s, upd_s]; exact ⟨by omega, rfl⟩
        · rw [uN_n hz, upd_n hz, hC j (by omega)]; exact hc j (by omega))
      have hol := opt_le (nv := nv) (Y := Y) (ro := ro) (fog := fun j => anyB Fo fg (dy + j)) r (k + 1) (uN c k v)
      have hfv : f v = 2 * ro v + opt nv Y ro (fun j => anyB Fo fg (dy + j)) r (k + 1) (uN c k v) := by rw [hf]
      have hC1 : ∀ j, j < k → C1 j = C0 j := fun j hj => by rw [l2 j (by omega), upd_n (by omega)]; exact hC j hj
      obtain ⟨C', a1, a2⟩ := ih (v + 1) n C1 (by omega) (by omega) hC1
      refine ⟨C', ?_, a2⟩
      by_cases hlt : f v < mnv P f v
      · obtain ⟨m1, m2⟩ := mnv_s hp hlt
        rw [m1, m2, if_pos (show f v < 1000000 by omega), hfv] at a1
        rw [hfv] at hlt
        simp (disch := omega) only [bE, bO, bV, bK, nI_lit, nI_add, lt_T, lt_F, le_T, le_F, eq_T, eq_F, ltm_T, ltm_F, lem_T, lem_F, eqm_F, meq_F, cl_nI, nle_T, nle_F, nlt_T, nlt_F, ↓reduceIte, or_true, true_or, or_false, false_or, and_true, true_and, and_false, false_and, not_true_eq_false, not_false_eq_true, or_self, and_self, true_implies, ite_self, e4, b, sI_A, l1, y3, pk_mul]
        exact a1
      · obtain ⟨m1, m2⟩ := mnv_n (P := P) (f := f) (v := v) (fun _ => hlt)
        rw [m1, m2] at a1
        rw [hfv] at hlt
        simp (disch := omega) only [bE, bO, bV, bK, nI_lit, nI_add, lt_T, lt_F, le_T, le_F, eq_T, eq_F, ltm_T, ltm_F, lem_T, lem_F, eqm_F, meq_F, cl_nI, nle_T, nle_F, nlt_T, nlt_F, ↓reduceIte, or_true, true_or, or_false, false_or, and_true, true_and, and_false, false_and, not_true_eq_false, not_false_eq_true, or_self, and_self, true_implies, ite_self, e4, b, sI_A, l1, y3, pk_mul]
        exact a1
theorem mk64 (h : RG nv K Y I F Fo ro pe fe fs fg (w.1 g) (w.2.1 g) M) (h1 : g = 24 ∨ g = 25) {N dy : Nat} {lf a b : Int32} (hN : N ≤ 10) (hdy : dy < 100000) (e1 : w.1 31 1 0 = nI dy) (e2 : w.1 31 2 0 = nI N) (e3 : w.1 31 3 0 = lf)
    (hlf : ∀ k, k < N → ¬ nI k < lf → ∀ j, k < j → j < N → anyB Fo fg (dy + j) = false) :
    ∀ r k n sp c C, k + r = N → r < n → sp ≤ 100 * k → (∀ j, j < k → c j < 8 ∧ C j = nI (c j)) → ∃ C',
      (opt nv Y ro (fun j => anyB Fo fg (dy + j)) r k c < 1000000 → f4_make_64 g a b n (nI sp) (nI k) (sA w 31 0 C) = some (nI (sp + opt nv Y ro (fun j => anyB Fo fg (dy + j)) r k c), sA w 31 0 C') ∧ ∀ j, j < N → C' j = nI (pl nv Y ro (fun j => anyB Fo fg (dy + j)) r k c j)) ∧
      (opt nv Y ro (fun j => anyB Fo fg (dy + j)) r k c = 1000000 → f4_make_64 g a b n (nI sp) (nI k) (sA w 31 0 C) = some (-nI 1, sA w 31 0 C')) := by
  have hnv := h.1.1
  have hg31 : g ≠ 31 := by omega
  have e2' : ∀ D, (sA w 31 0 D).1 31 2 0 = nI N := fun D => by rw [ky_sA (by omega)]; exact e2
  intro r
  induction r with
  | zero =>
    intro k n sp c C hk hn hsp hc
    obtain ⟨n, rfl⟩ : ∃ z, n = z + 1 := ⟨n - 1, by omega⟩
    refine ⟨C, fun _ => ⟨?_, fun j hj => (hc j (by omega)).2⟩, fun z => by rw [opt] at z; omega⟩
    rw [f4_make_64, opt]
    simp (disch := omega) only [bE, bO, bV, bK, nI_lit, nI_add, lt_T, lt_F, le_T, le_F, eq_T, eq_F, ltm_T, ltm_F, lem_T, lem_F, eqm_F, meq_F, cl_nI, nle_T, nle_F, nlt_T, nlt_F, ↓reduceIte, or_true, true_or, or_false, false_or, and_true, true_and, and_false, false_and, not_true_eq_false, not_false_eq_true, or_self, and_self, true_implies, ite_self, e2', Nat.add_zero]
  | succ r ih =>
    intro k n sp c C hk hn hsp hc
    obtain ⟨n, rfl⟩ : ∃ z, n = z + 1 := ⟨n - 1, by omega⟩
    obtain ⟨S, s1, s2, s3⟩ := free_ok (RG31 h h1 C) (k := k) (c := c) (by omega) hdy (by rw [ky_sA (by omega)]; exact e1) (fun j hj => by rw [kx_sA]; exact hc j hj)
    obtain ⟨P, hP⟩ : ∃ P, P = fr nv Y ro (fun j => anyB Fo fg (dy + j)) c k := ⟨_, rfl⟩
    obtain ⟨f, hf⟩ : ∃ f : Nat → Nat, f = fun x => 2 * ro x + opt nv Y ro (fun j => anyB Fo fg (dy + j)) r (k + 1) (uN c k x) := ⟨_, rfl⟩
    obtain ⟨C1, a1, a2⟩ := ch_ok h h1 hN hdy e1 e2 e3 hlf hk s1 s3 (C0 := C) hc hP hf nv 0 100000 C (by omega) (by omega) (fun _ _ => rfl)
    have eo : opt nv Y ro (fun j => anyB Fo fg (dy + j)) (r + 1) k c = mnv P f nv := by rw [hP, hf]; rfl
    have ep : pl nv Y ro (fun j => anyB Fo fg (dy + j)) (r + 1) k c = pl nv Y ro (fun j => anyB Fo fg (dy + j)) r (k + 1) (uN c k (am P f nv)) := by rw [hP, hf]; rfl
    have ch : f4_choose g (nI k) (sA w 31 0 C) = some (if mnv P f nv < 1000000 then nI (am P f nv) else -nI 1, sA w 31 0 C1) := by
      unfold f4_choose
      rw [if_neg (nI_pos (by omega)), if_pos (show nI k < 10 from nI_lt (b := 10) (by omega) (by omega)), s2, bO]
      exact a1
    rw [f4_make_64, eo]
    by_cases hm : mnv P f nv < 1000000
    · obtain ⟨b1, b2, b3⟩ := mnv_am nv hm
      rw [if_pos hm] at ch
      obtain ⟨v, hv⟩ : ∃ v, v = am P f nv := ⟨_, rfl⟩
      rw [← hv] at ch b1 b2 b3 ep
      obtain ⟨⟨y1, -⟩, ⟨y2, -⟩, -⟩ := h.2.2.2.2.2.2.2.2.1 v b1
      have y3 : ∀ D, (sA w 31 0 D).1 g 7 v = nI (ro v) := fun D => by rw [ob_sA hg31]; exact y2
      have hfv : 2 * ro v + opt nv Y ro (fun j => anyB Fo fg (dy + j)) r (k + 1) (uN c k v) = mnv P f nv := by rw [← b3, hf]
      obtain ⟨C', i1, i2⟩ := ih (k + 1) n (sp + 2 * ro v) (uN c k v) (upd C1 k (nI v)) (by omega) (by omega) (by omega) (fun j hj => by
        by_cases hz : j = k
        · subst hz; rw [uN_s, upd_s]; exact ⟨by omega, rfl⟩
        · rw [uN_n hz, upd_n hz, a2 j (by omega)]; exact hc j (by omega))
      obtain ⟨i3, i4⟩ := i1 (by omega)
      refine ⟨C', fun _ => ⟨?_, by rw [ep]; exact i4⟩, fun z => by omega⟩
      rw [show sp + mnv P f nv = sp + 2 * ro v + opt nv Y ro (fun j => anyB Fo fg (dy + j)) r (k + 1) (uN c k v) by omega]
      simp (disch := omega) only [bE, bO, bV, bK, nI_lit, nI_add, lt_T, lt_F, le_T, le_F, eq_T, eq_F, ltm_T, ltm_F, lem_T, lem_F, eqm_F, meq_F, cl_nI, nle_T, nle_F, nlt_T, nlt_F, ↓reduceIte, or_true, true_or, or_false, false_or, and_true, true_and, and_false, false_and, not_true_eq_false, not_false_eq_true, or_self, and_self, true_implies, ite_self, e2', ch, sI_A, y3, pk_mul]
      exact i3
    · rw [if_neg hm] at ch
      refine ⟨C1, fun z => absurd z hm, fun _ => ?_⟩
      simp (disch := omega) only [bE, bO, bV, bK, nI_lit, nI_add, lt_T, lt_F, le_T, le_F, eq_T, eq_F, ltm_T, ltm_F, lem_T, lem_F, eqm_F, meq_F, cl_nI, nle_T, nle_F, nlt_T, nlt_F, ↓reduceIte, or_true, true_or, or_false, false_or, and_true, true_and, and_false, false_and, not_true_eq_false, not_false_eq_true, or_self, and_self, true_implies, ite_self, e2', ch]
theorem mk26 (h : RG nv K Y I F Fo ro pe fe fs fg (w.1 g) (w.2.1 g) M) (h1 : g = 24 ∨ g = 25) {N dy : Nat} {b : Int32} (hN : N ≤ 10) (hdy : dy < 100000) (e2 : w.1 31 2 0 = nI N) :
    ∀ i k n lf, k + i = N → i < n → (∀ j, j < k → anyB Fo fg (dy + j) = true → nI j ≤ lf) → ∃ lf', f4_make_26 g (nI dy) b n (nI k) (sI w 31 3 0 lf) = f4_make_64 g (nI dy) b 100000 0 0 (sI w 31 3 0 lf') ∧ (∀ j, j < N → anyB Fo fg (dy + j) = true → nI j ≤ lf') := by
  have e2' : ∀ x, (sI w 31 3 0 x).1 31 2 0 = nI N := fun x => by rw [ky_sI (by omega)]; exact e2
  intro i
  induction i with
  | zero =>
    intro k n lf hk hn hl
    obtain ⟨n, rfl⟩ : ∃ z, n = z + 1 := ⟨n - 1, by omega⟩
    obtain rfl : k = N := by omega
    refine ⟨lf, ?_, hl⟩
    rw [f4_make_26, e2', if_pos (Int32.le_refl _)]
  | succ i ih =>
    intro k n lf hk hn hl
    obtain ⟨n, rfl⟩ : ∃ z, n = z + 1 := ⟨n - 1, by omega⟩
    have hR : RG nv K Y I F Fo ro pe fe fs fg ((sI w 31 3 0 lf).1 g) ((sI w 31 3 0 lf).2.1 g) M := by
      rw [ob_sI (by omega), rd_sI2]; exact h
    have f := cfog_ok hR (t := dy + k) (by omega)
    rw [f4_make_26, e2', if_neg (nI_ge (show k < N by omega) (by omega)), nI_add, f, bO]
    cases hb : anyB Fo fg (dy + k) with
    | false =>
      rw [if_neg (show ¬ (false = true) by decide), if_pos (show nI 0 = (0 : Int32) from rfl)]
      simp only [bE]
      rw [show nI k + 1 = nI (k + 1) from nI_add k 1]
      refine ih (k + 1) n lf (by omega) (by omega) (fun j hj hj2 => ?_)
      by_cases hz : j = k
      · subst hz; rw [hb] at hj2; cases hj2
      · exact hl j (by omega) hj2
    | true =>
      rw [if_pos rfl, if_neg (show ¬ nI 1 = (0 : Int32) by decide)]
      simp only [bE]
      rw [show nI k + 1 = nI (k + 1) from nI_add k 1, sI_sI]
      exact ih (k + 1) n (nI k) (by omega) (by omega) (fun j hj hj2 => nI_le (by omega) (by omega))
theorem make_ok (h : RG nv K Y I F Fo ro pe fe fs fg (w.1 g) (w.2.1 g) M) (h1 : g = 24 ∨ g = 25) {N dy : Nat} (hN : N ≤ 10) (hdy : dy < 100000) : ∃ w', (∀ d, d ≠ 31 → w'.1 d = w.1 d) ∧ w'.2 = w.2 ∧
    (opt nv Y ro (fun j => anyB Fo fg (dy + j)) N 0 (fun _ => 0) < 1000000 → f4_make g (nI dy) (nI N) w = some (nI (opt nv Y ro (fun j => anyB Fo fg (dy + j)) N 0 (fun _ => 0)), w') ∧ ∀ j, j < N → w'.1 31 0 j = nI (pl nv Y ro (fun j => anyB Fo fg (dy + j)) N 0 (fun _ => 0) j)) ∧
    (opt nv Y ro (fun j => anyB Fo fg (dy + j)) N 0 (fun _ => 0) = 1000000 → f4_make g (nI dy) (nI N) w = some (-nI 1, w')) := by
  have jm : jmin (nI N) 10 = nI N := by
    have := jmin_ok (a := N) (b := 10) (by omega) (by omega)
    rw [Nat.min_eq_left hN] at this
    exact this
  obtain ⟨W, hW⟩ : ∃ W, W = sI (sI w 31 1 0 (nI dy)) 31 2 0 (nI N) := ⟨_, rfl⟩
  have hR : RG nv K Y I F Fo ro pe fe fs fg (W.1 g) (W.2.1 g) M := by
    rw [hW, ob_sI (by omega), ob_sI (by omega), rd_sI2, rd_sI2]; exact h
  obtain ⟨lf, a1, a2⟩ := mk26 hR h1 (b := nI N) hN hdy (by rw [hW, kx_sI, upd_s]) N 0 100000 (-1) (by omega) (by omega) (fun j hj => by omega)
  have hR2 : RG nv K Y I F Fo ro pe fe fs fg ((sI W 31 3 0 lf).1 g) ((sI W 31 3 0 lf).2.1 g) M := by
    rw [ob_sI (by omega), rd_sI2]; exact hR
  obtain ⟨C', b1, b2⟩ := mk64 hR2 h1 (a := nI dy) (b := nI N) (lf := lf) hN hdy (by rw [hW]; simp (disch := omega) only [ky_sI, kx_sI, upd_s]) (by rw [hW]; simp (disch := omega) only [ky_sI, kx_sI, upd_s]) (by rw [kx_sI, upd_s]) (fun k hk hn j j1 j2 => by
    cases hb : anyB Fo fg (dy + j) with
    | false => rfl
    | true =>
      have q := a2 j j2 hb
      exact absurd (Int32.lt_of_lt_of_le (nI_lt j1 (by omega)) q) hn) N 0 100000 0 (fun _ => 0) ((sI W 31 3 0 lf).1 31 0) (by omega) (by omega) (by omega) (fun j hj => by omega)
  rw [sA_id, Nat.zero_add] at b1
  rw [sA_id] at b2
  have em : f4_make g (nI dy) (nI N) w = f4_make_64 g (nI dy) (nI N) 100000 (nI 0) (nI 0) (sI W 31 3 0 lf) := by
    refine Eq.trans ?_ a1
    unfold f4_make
    rw [jm]
    simp only [bE]
    rw [hW]; rfl
  refine ⟨sA (sI W 31 3 0 lf) 31 0 C', fun d hd => ?_, ?_, fun z => ?_, fun z => ?_⟩
  · rw [ob_sA hd, ob_sI hd, hW, ob_sI hd, ob_sI hd]
  · rw [sA_2, hW]; rfl
  · rw [em]
    refine ⟨(b1 z).1, fun j hj => ?_⟩
    rw [kx_sA]
    exact (b1 z).2 j hj
  · rw [em]; exact b2 z
end Feet
