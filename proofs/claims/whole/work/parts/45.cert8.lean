section Rock
variable {nv K Y I F Fo : Nat} {ro pe fe fs fg : Nat → Nat} {G : Nat → Nat → Int32} {GL : Nat → Nat → Int64} {M : Nat → Nat → Int32} {w : Mem} {g : Nat}
theorem fc4 (h : PW nv pe w) {S : Nat} (hS : S < 256) : ∀ k u a n T, u + k = nv → k < n → (∀ x, x < u → T x = -1) → ∃ T', f8_findCertain_4 (nI S) n (nI a) (nI u) (sA w 32 32 T) = f8_findCertain_50 (nI S) (nI (pts pe S k u a)) (sA w 32 32 T') ∧ ∀ x, x < nv → T' x = -1 := by
  have hnv := h.1
  intro k
  induction k with
  | zero =>
    intro u a n T hu hn hT
    obtain ⟨n, rfl⟩ : ∃ m, n = m + 1 := ⟨n - 1, by omega⟩
    obtain rfl : u = nv := by omega
    refine ⟨T, ?_, hT⟩
    have e3 := (h.sA T).2.1
    rw [f8_findCertain_4, pts]
    simp (disch := omega) only [bE, bO, bV, bK, nI_lit, nI_add, lt_T, lt_F, le_T, le_F, eq_T, eq_F, ltm_T, ltm_F, lem_T, lem_F, eqm_F, meq_F, cl_nI, nle_T, nle_F, nlt_T, nlt_F, ↓reduceIte, or_true, true_or, or_false, false_or, and_true, true_and, and_false, false_and, not_true_eq_false, not_false_eq_true, or_self, and_self, true_implies, ite_self, e3]
  | succ k ih =>
    intro u a n T hu hn hT
    obtain ⟨n, rfl⟩ : ∃ m, n = m + 1 := ⟨n - 1, by omega⟩
    have e3 := (h.sA T).2.1
    obtain ⟨x1, x2, x3⟩ := (h.sA T).2.2 u (by omega)
    have b := hasm_ok (w := sA w 32 32 T) (v := u) hS (by omega)
    have hT' : ∀ x, x < u + 1 → (upd T u (-1)) x = -1 := fun x hx => by
      by_cases hz : x = u
      · subst hz; exact upd_s ..
      · rw [upd_n hz]; exact hT x (by omega)
    rw [f8_findCertain_4, pts]
    cases hb : tb S u with
    | false =>
      rw [hb, if_neg (by decide)] at b
      obtain ⟨T', t1, t2⟩ := ih (u + 1) a n (upd T u (-1)) (by omega) (by omega) hT'
      refine ⟨T', ?_, t2⟩
      simp (disch := omega) only [bE, bO, bV, bK, nI_lit, nI_add, lt_T, lt_F, le_T, le_F, eq_T, eq_F, ltm_T, ltm_F, lem_T, lem_F, eqm_F, meq_F, cl_nI, nle_T, nle_F, nlt_T, nlt_F, ↓reduceIte, or_true, true_or, or_false, false_or, and_true, true_and, and_false, false_and, not_true_eq_false, not_false_eq_true, or_self, and_self, true_implies, ite_self, e3, b, Bool.false_eq_true, sI_A]
      exact t1
    | true =>
      rw [hb, if_pos rfl] at b
      have d1 : nI 2520 / nI (pe u) = nI (2520 / pe u) := rdiv (pe u) (by omega)
      obtain ⟨T', t1, t2⟩ := ih (u + 1) (a + 2520 / pe u) n (upd T u (-1)) (by omega) (by omega) hT'
      refine ⟨T', ?_, t2⟩
      simp (disch := omega) only [bE, bO, bV, bK, nI_lit, nI_add, lt_T, lt_F, le_T, le_F, eq_T, eq_F, ltm_T, ltm_F, lem_T, lem_F, eqm_F, meq_F, cl_nI, nle_T, nle_F, nlt_T, nlt_F, ↓reduceIte, or_true, true_or, or_false, false_or, and_true, true_and, and_false, false_and, not_true_eq_false, not_false_eq_true, or_self, and_self, true_implies, ite_self, e3, b, x3, d1, sI_A]
      exact t1
theorem fc_ok (h : PW nv pe w) {S : Nat} (hS : S < 256) (A : Nat → Nat) : ∃ T', (if pts pe S nv 0 0 = 2520 ∧ (sr pe S nv nv A).isSome then f8_findCertain (nI S) w = some (nI 1, sA w 32 32 T') ∧ ∀ B, sr pe S nv nv A = some B → ∀ u, u < nv → tb S u = true → T' u = nI (B u) else f8_findCertain (nI S) w = some (nI 0, sA w 32 32 T')) := by
  have hnv := h.1
  obtain ⟨T, t1, t2⟩ := fc4 h hS nv 0 0 100000 (w.1 32 32) (by omega) (by omega) (fun x hx => by omega)
  rw [sA_id] at t1
  have t1' : f8_findCertain (nI S) w = f8_findCertain_50 (nI S) (nI (pts pe S nv 0 0)) (sA w 32 32 T) := t1
  have hpl : ∀ k u a, a ≤ 2520 * u → pts pe S k u a ≤ 2520 * (u + k) := by
    intro k
    induction k with
    | zero => intro u a ha; exact ha
    | succ k ih =>
      intro u a ha
      rw [pts]
      have d2 := Nat.div_le_self 2520 (pe u)
      refine Nat.le_trans (ih (u + 1) _ ?_) (by omega)
      split <;> omega
  have hp := hpl nv 0 0 (by omega)
  rw [t1']
  unfold f8_findCertain_50
  by_cases hq : pts pe S nv 0 0 = 2520
  · have e3 := (h.sA T).2.1
    have g1 := nx_ok (w := sA w 32 32 T) (a := -1) hS hnv e3 nv 0 100000 (by omega) (by omega)
    have g2 : f8_next (nI S) (-1) (sA w 32 32 T) = some (nI (nx S nv nv 0), sA w 32 32 T) := by
      unfold f8_next
      rw [bE]; exact g1
    obtain ⟨c, T', c1, c2, c3⟩ := p66 h hS nv (by omega) A T (fun u hu => by omega) (fun u _ hu _ => t2 u hu)
    rw [Nat.sub_self] at c2 c3
    have hc : c ≤ 20 ^ 8 := Nat.le_trans c1 (Nat.pow_le_pow_right (by omega) hnv)
    rw [hq, if_pos (show nI 2520 = (2520 : Int32) from rfl), g2, bO]
    cases hs : sr pe S nv nv A with
    | some B =>
      obtain ⟨d1, d2⟩ := c2 B hs
      refine ⟨T', ?_⟩
      rw [if_pos ⟨rfl, rfl⟩]
      refine ⟨?_, fun B' hB' => by cases hB'; exact d1⟩
      rw [show 1000000000000 = (1000000000000 - c - 1) + c + 1 by omega]
      exact d2 _
    | none =>
      obtain ⟨d1, d2⟩ := c3 hs
      refine ⟨T', ?_⟩
      rw [if_neg (fun z => absurd z.2 (by decide))]
      obtain ⟨m, hm⟩ : ∃ m, 1000000000000 = (m + 1) + c := ⟨1000000000000 - c - 1, by omega⟩
      rw [hm, d2, bf, f8_findCertain_66]
      have i0 : f8_in (Int32.toInt64 (nI 0 + -1)) 0 (Int32.toInt64 ((sA w 32 32 T').1 32 3 0 - 1)) (sA w 32 32 T') = some (0, sA w 32 32 T') := in_neg _ (by decide)
      rw [i0, bO, if_pos rfl]
      unfold f8_findCertain_143
      rw [(h.sA T').2.1, if_pos (show nI 0 + -1 < nI nv from (ltm_T (a := 1) (b := nv) (by omega) (by omega) (by omega)).mpr trivial)]
      rfl
  · refine ⟨T, ?_⟩
    rw [if_neg (fun z => hq z.1), if_neg (show ¬ nI (pts pe S nv 0 0) = 2520 from fun z => hq ((nI_eq (b := 2520) (by omega) (by omega)).mp z))]
    rfl
theorem fd_ok (h : RG nv K Y I F Fo ro pe fe fs fg (w.1 g) (w.2.1 g) M) (h1 : g = 24 ∨ g = 25) {S : Nat} (hS : S < 256) (A : Nat → Nat) : ∃ C', (if pts pe S nv 0 0 = 2520 ∧ (sr pe S nv nv A).isSome then f0_find g (nI S) w = some (nI 1, sA w 30 0 C') ∧ ∀ B, sr pe S nv nv A = some B → ∀ u, u < nv → tb S u = true → C' u = nI (B u) else f0_find g (nI S) w = some (nI 0, sA w 30 0 C')) := by
  have hnv := h.1.1
  have a1 : f0_comesOften g (nI S) w = some (if pts pe S nv 0 0 = 2520 then nI 1 else nI 0, w) := cof_ok h hS nv 0 0 100000 (by omega) (by omega) (by omega)
  unfold f0_find
  rw [a1, bO]
  by_cases hq : pts pe S nv 0 0 = 2520
  · simp only [hq, if_true, true_and]
    rw [if_neg (show ¬ nI 1 = (0 : Int32) by decide)]
    rcases cp2 h hS nv 0 100000 (by omega) (by omega) with z | ⟨z, u, v, b1, b2, b3, b4, b5⟩
    · rw [show f0_canPassEachOther g (nI S) w = some (nI 1, w) from z, bO, if_neg (show ¬ nI 1 = (0 : Int32) by decide)]
      obtain ⟨C', d1, d2, d3⟩ := pl_ok h h1 hS nv 20 (by omega) (by omega) A (w.1 30 0) (fun u hu => by omega)
      rw [Nat.sub_self, sA_id] at d1
      refine ⟨C', ?_⟩
      rw [show f0_place 20 g (nI S) 0 w = _ from d1, bO]
      cases hs : sr pe S nv nv A with
      | some B =>
        simp only [Option.isSome_some, ↓reduceIte]
        rw [if_neg (show ¬ nI 1 = (0 : Int32) by decide)]
        exact ⟨rfl, fun B' hB' u hu hu2 => (d3 B' (hs.trans hB') u hu hu2).2⟩
      | none =>
        simp only [Option.isSome_none, Bool.false_eq_true, ↓reduceIte]
        rw [if_pos (show nI 0 = (0 : Int32) from rfl)]
        rfl
    · refine ⟨w.1 30 0, ?_⟩
      rw [sr_bad b1 b2 b3 b4 b5 nv (by omega) (by omega) A, if_neg (by decide), show f0_canPassEachOther g (nI S) w = some (nI 0, w) from z, bO, if_pos (show nI 0 = (0 : Int32) from rfl), sA_id]
      rfl
  · refine ⟨w.1 30 0, ?_⟩
    rw [if_neg (fun z => hq z.1), if_neg hq, if_pos (show nI 0 = (0 : Int32) from rfl), sA_id]
    rfl
end Rock
theorem q_certain {n : Nat} {w : Mem} (h : Rel n w) (a b : Int32) : Same n w (f7_certain a b) (f8_certain a b) := by
  obtain ⟨⟨g, nv, K, Y, I, F, Fo, ro, pe, fe, fs, fg, h1, h2, h3, h4, h5, h6, h7⟩, hT, hF, hN⟩ := id h
  have hnv := h3.1.1
  have a4 := h3.2.2.2.2.2.1
  have hp : 2 ^ nv ≤ 2 ^ 8 := Nat.pow_le_pow_right (by omega) hnv
  have hp0 : 0 < 2 ^ nv := Nat.pow_pos (by omega)
  have ea : f6_all g w = some (nI (2 ^ nv - 1), w) := by
    unfold f6_all
    rw [a4.1]
    exact congrArg (fun z => some (z, w)) (sh1m nv (by omega))
  have em : Int32.toInt64 (jshl 1 (w.1 32 3 0) - 1) = lN (2 ^ nv - 1) := by
    rw [a4.2, sh1m nv (by omega)]
    exact nI_l (by omega)
  have m1 : (-1 : Int32) = -nI 1 := rfl
  -- the village
  by_cases hv : ∃ v, v < nv ∧ b = nI v
  · obtain ⟨v, hv, rfl⟩ := hv
    have e1 := has_T a4.1 hnv hv
    have e2 := vil_T a4.2 hnv hv
    rcases ix3 a (2 ^ nv) (by omega) with ha | ha | ⟨S, hS, rfl⟩
    · refine ⟨-1000000001, w, w, ?_, ?_, h.next (by omega)⟩
      · unfold f7_certain
        rw [rk_g h1 h2.1, bK, e1, bO, if_neg (by decide), rk_g h1 h2.1, bK, ea, bO, if_neg (show ¬ a &&& (nI (2 ^ nv - 1) ^^^ -1) = 0 from msk_neg (k := nv) (by omega) ha)]
      · unfold f8_certain
        rw [in_neg w ha, bO, if_pos rfl]
    · refine ⟨-1000000001, w, w, ?_, ?_, h.next (by omega)⟩
      · unfold f7_certain
        rw [rk_g h1 h2.1, bK, e1, bO, if_neg (by decide), rk_g h1 h2.1, bK, ea, bO, if_neg (show ¬ a &&& (nI (2 ^ nv - 1) ^^^ -1) = 0 from msk_big (k := nv) (by omega) ha)]
      · unfold f8_certain
        rw [em, in_big (b := 2 ^ nv - 1) w rfl (by omega) (by rw [show 2 ^ nv - 1 + 1 = 2 ^ nv by omega]; exact ha), bO, if_pos rfl]
    · have bs := bt_sh S (by omega) v (by omega)
      have bh := hasm_ok (w := w) (m := S) (v := v) (by omega) (by omega)
      have ei : f8_in (Int32.toInt64 (nI S)) 0 (Int32.toInt64 (jshl 1 (w.1 32 3 0) - 1)) w = some (1, w) := in0_T w em (by omega) (by omega)
      have eM : nI S &&& (nI (2 ^ nv - 1) ^^^ (-1)) = 0 := msk_b nv (by omega) S hS
      have nv0 : ¬ (nI v < 0 ∨ 8 ≤ Int32.toNatClampNeg (nI v)) := by
        rw [cl_nI (by omega)]
        exact fun z => z.elim (nI_pos (by omega)) (by omega)
      cases hb : tb S v with
      | false =>
        rw [hb, if_neg (by decide)] at bs bh
        refine ⟨-1, w, w, ?_, ?_, h.next (by omega)⟩
        · unfold f7_certain
          rw [rk_g h1 h2.1, bK, e1, bO, if_neg (by decide), rk_g h1 h2.1, bK, ea, bO, if_pos eM, if_pos (show jshr (nI S) (nI v) &&& 1 = 0 from bs)]
        · unfold f8_certain
          rw [ei, bO, if_neg (by decide), e2, bO, if_neg (by decide), bh, bO, if_pos (show nI 0 = (0 : Int32) from rfl)]
      | true =>
        rw [hb, if_pos rfl] at bs bh
        obtain ⟨C', c⟩ := fd_ok h3 h1 (S := S) (by omega) (fun _ => 0)
        have hPW : PW nv pe (sA w 30 0 C') := by
          refine ⟨hnv, by rw [ob_sA (by omega)]; exact a4.2, fun u hu => ?_⟩
          obtain ⟨⟨y1, y2, y3, y4⟩, -, y5, -⟩ := h3.2.2.2.2.2.2.2.2.1 u hu
          rw [ob_sA (by omega)]
          exact ⟨y2, y3, y5.2⟩
        obtain ⟨T', t⟩ := fc_ok hPW (S := S) (by omega) (fun _ => 0)
        have hrel : Rel (n + 1) (sA (sA w 30 0 C') 32 32 T') := by
          refine ⟨⟨g, nv, K, Y, I, F, Fo, ro, pe, fe, fs, fg, RCo.same (w := w) (n := n) ⟨h1, h2, h3, h4, h5, h6, h7⟩ ?_ (by omega)⟩, hT.same (by simp (disch := omega) only [ob_sI, ob_sA, ky_sI, ky_sA, rd_sL1, rd_sR1, rd_sI2, rd_sA2, rd_sR2, rd_sI3, rd_sA3, rd_sL3]) (by simp (disch := omega) only [ob_sI, ob_sA, ky_sI, ky_sA, rd_sL1, rd_sR1, rd_sI2, rd_sA2, rd_sR2, rd_sI3, rd_sA3, rd_sL3]) (by simp (disch := omega) only [ob_sI, ob_sA, ky_sI, ky_sA, rd_sL1, rd_sR1, rd_sI2, rd_sA2, rd_sR2, rd_sI3, rd_sA3, rd_sL3]) (by simp (disch := omega) only [ob_sI, ob_sA, ky_sI, ky_sA, rd_sL1, rd_sR1, rd_sI2, rd_sA2, rd_sR2, rd_sI3, rd_sA3, rd_sL3]) (by omega), hF.same (by simp (disch := omega) only [ob_sI, ob_sA, ky_sI, ky_sA, rd_sL1, rd_sR1, rd_sI2, rd_sA2, rd_sR2, rd_sI3, rd_sA3, rd_sL3]) (by simp (disch := omega) only [ob_sI, ob_sA, ky_sI, ky_sA, rd_sL1, rd_sR1, rd_sI2, rd_sA2, rd_sR2, rd_sI3, rd_sA3, rd_sL3]), hN.same (fun k hk => by simp (disch := omega) only [ob_sI, ob_sA, ky_sI, ky_sA, rd_sL1, rd_sR1, rd_sI2, rd_sA2, rd_sR2, rd_sI3, rd_sA3, rd_sL3]) (fun k hk hk2 => by simp (disch := omega) only [ob_sI, ob_sA, ky_sI, ky_sA, rd_sL1, rd_sR1, rd_sI2, rd_sA2, rd_sR2, rd_sI3, rd_sA3, rd_sL3])⟩
          exact ⟨fun d hd1 hd2 => by simp (disch := omega) only [ob_sI, ob_sA, ky_sI, ky_sA, rd_sL1, rd_sR1, rd_sI2, rd_sA2, rd_sR2, rd_sI3, rd_sA3, rd_sL3], ⟨by simp (disch := omega) only [ob_sI, ob_sA, ky_sI, ky_sA, rd_sL1, rd_sR1, rd_sI2, rd_sA2, rd_sR2, rd_sI3, rd_sA3, rd_sL3], by simp (disch := omega) only [ob_sI, ob_sA, ky_sI, ky_sA, rd_sL1, rd_sR1, rd_sI2, rd_sA2, rd_sR2, rd_sI3, rd_sA3, rd_sL3]⟩, ⟨by simp (disch := omega) only [ob_sI, ob_sA, ky_sI, ky_sA, rd_sL1, rd_sR1, rd_sI2, rd_sA2, rd_sR2, rd_sI3, rd_sA3, rd_sL3], by simp (disch := omega) only [ob_sI, ob_sA, ky_sI, ky_sA, rd_sL1, rd_sR1, rd_sI2, rd_sA2, rd_sR2, rd_sI3, rd_sA3, rd_sL3]⟩, ⟨by simp (disch := omega) only [ob_sI, ob_sA, ky_sI, ky_sA, rd_sL1, rd_sR1, rd_sI2, rd_sA2, rd_sR2, rd_sI3, rd_sA3, rd_sL3], by simp (disch := omega) only [ob_sI, ob_sA, ky_sI, ky_sA, rd_sL1, rd_sR1, rd_sI2, rd_sA2, rd_sR2, rd_sI3, rd_sA3, rd_sL3], by simp (disch := omega) only [ob_sI, ob_sA, ky_sI, ky_sA, rd_sL1, rd_sR1, rd_sI2, rd_sA2, rd_sR2, rd_sI3, rd_sA3, rd_sL3]⟩, ⟨by simp (disch := omega) only [ob_sI, ob_sA, ky_sI, ky_sA, rd_sL1, rd_sR1, rd_sI2, rd_sA2, rd_sR2, rd_sI3, rd_sA3, rd_sL3], by simp (disch := omega) only [ob_sI, ob_sA, ky_sI, ky_sA, rd_sL1, rd_sR1, rd_sI2, rd_sA2, rd_sR2, rd_sI3, rd_sA3, rd_sL3]⟩, fun k hk => by simp (disch := omega) only [ob_sI, ob_sA, ky_sI, ky_sA, rd_sL1, rd_sR1, rd_sI2, rd_sA2, rd_sR2, rd_sI3, rd_sA3, rd_sL3]⟩
        have f7e : ∀ r W, f0_find g (nI S) w = some (r, W) → f7_certain (nI S) (nI v) w = if r = 0 then some (-1, W) else some (W.1 30 0 v, W) := by
          intro r W e
          unfold f7_certain
          rw [rk_g h1 h2.1, bK, e1, bO, if_neg (by decide), rk_g h1 h2.1, bK, ea, bO, if_pos eM, if_neg (show ¬ jshr (nI S) (nI v) &&& 1 = 0 from fun z => absurd (bs.symm.trans z) (by decide)), rk_g h1 h2.1, bK, e, bO, if_neg nv0, cl_nI (by omega)]
        have e2' := vil_T (w := sA w 30 0 C') (by rw [ob_sA (by omega)]; exact a4.2) hnv hv
        have bh' := hasm_ok (w := sA w 30 0 C') (m := S) (v := v) (by omega) (by omega)
        rw [hb, if_pos rfl] at bh'
        have ei' : f8_in (Int32.toInt64 (nI S)) 0 (Int32.toInt64 (jshl 1 ((sA w 30 0 C').1 32 3 0) - 1)) (sA w 30 0 C') = some (1, sA w 30 0 C') := in0_T _ (by rw [ob_sA (by omega)]; exact em) (by omega) (by omega)
        have f8e : ∀ r W, f8_findCertain (nI S) (sA w 30 0 C') = some (r, W) → f8_certain (nI S) (nI v) (sA w 30 0 C') = if r = 0 then some (-1, W) else some (W.1 32 32 v, W) := by
          intro r W e
          unfold f8_certain
          rw [ei', bO, if_neg (by decide), e2', bO, if_neg (by decide), bh', bO, if_neg (by decide), e, bO, if_neg nv0, cl_nI (by omega)]
        by_cases hq : pts pe S nv 0 0 = 2520 ∧ (sr pe S nv nv (fun _ => 0)).isSome
        · rw [if_pos hq] at c t
          obtain ⟨B, hB⟩ := Option.isSome_iff_exists.mp hq.2
          refine ⟨nI (B v), sA w 30 0 C', _, ?_, ?_, hrel⟩
          · rw [f7e _ _ c.1, if_neg (by decide), kx_sA, c.2 B hB v hv hb]
          · rw [f8e _ _ t.1, if_neg (by decide), kx_sA, t.2 B hB v hv hb]
        · rw [if_neg hq] at c t
          refine ⟨-1, sA w 30 0 C', _, ?_, ?_, hrel⟩
          · rw [f7e _ _ c, if_pos (show nI 0 = (0 : Int32) from rfl)]
          · rw [f8e _ _ t, if_pos (show nI 0 = (0 : Int32) from rfl)]
  · have hb : b < nI 0 ∨ nI nv ≤ b := by
      rcases ix3 b nv (by omega) with z | z | z
      · exact Or.inl z
      · exact Or.inr z
      · exact absurd z hv
    refine ⟨-1000000001, w, w, ?_, ?_, h.next (by omega)⟩
    · unfold f7_certain
      rw [rk_g h1 h2.1, bK, has_F a4.1 hnv hb, bO, if_pos (show nI 0 = (0 : Int32) from rfl)]
    · unfold f8_certain
      rw [in_ok, bO]
      split
      · rw [if_neg (by decide), vil_F a4.2 hnv hb, bO, if_pos (show nI 0 = (0 : Int32) from rfl)]
      · rfl
