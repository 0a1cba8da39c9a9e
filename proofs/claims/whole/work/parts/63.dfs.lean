/-! the least feet: the reference's search -/
def EFt (u u' : Mem) : Prop := (∀ d, d ≠ 32 → u'.1 d = u.1 d) ∧ (∀ k, k < 34 ∨ 36 < k → u'.1 32 k = u.1 32 k) ∧ u'.2 = u.2
theorem EFt.r (u : Mem) : EFt u u := ⟨fun _ _ => rfl, fun _ _ => rfl, rfl⟩
theorem EFt.tr {u v w : Mem} (h : EFt u v) (h' : EFt v w) : EFt u w := ⟨fun d hd => (h'.1 d hd).trans (h.1 d hd), fun k hk => (h'.2.1 k hk).trans (h.2.1 k hk), h'.2.2.trans h.2.2⟩
theorem EFt.s {u : Mem} {k i : Nat} {x : Int32} (h : 34 ≤ k) (h2 : k ≤ 36) : EFt u (sI u 32 k i x) := ⟨fun d hd => ob_sI hd, fun j hj => ky_sI (by omega), rfl⟩
/-- the rest of the reference: rock and bounds -/
def TB (nv Y Fo dy N : Nat) (ro fg : Nat → Nat) (u : Mem) : Prop := PF nv Y Fo dy ro fg u ∧ ∀ e s, e ≤ N → s < 6561 → u.1 32 33 (6561 * e + s) = nI (lwf nv Y ro (fun j => anyB Fo fg (dy + j)) (N - e) e s)
theorem cp135 {N : Nat} {x : Int32} (hN : N ≤ 10) : ∀ i k n u, k + i = N → i < n → ∃ u', (∀ rec21 : Int32 → Mem → Option Mem, f8_findFeet_135 (nI N) rec21 n x (nI k) u = rec21 x u') ∧ EFt u u' ∧ u'.1 32 34 = u.1 32 34 ∧ u'.1 32 36 = u.1 32 36 ∧ (∀ j, k ≤ j → j < N → u'.1 32 35 j = u.1 32 34 j) ∧ (∀ j, j < k → u'.1 32 35 j = u.1 32 35 j) := by
  intro i
  induction i with
  | zero =>
    intro k n u hk hn
    obtain ⟨n, rfl⟩ : ∃ z, n = z + 1 := ⟨n - 1, by omega⟩
    obtain rfl : k = N := by omega
    refine ⟨u, fun rec21 => ?_, EFt.r u, rfl, rfl, fun j h1 h2 => by omega, fun _ _ => rfl⟩
    rw [f8_findFeet_135, if_pos (Int32.le_refl _)]
  | succ i ih =>
    intro k n u hk hn
    obtain ⟨n, rfl⟩ : ∃ z, n = z + 1 := ⟨n - 1, by omega⟩
    obtain ⟨u', a1, a2, a3, a4, a5, a6⟩ := ih (k + 1) n (sI u 32 35 k (u.1 32 34 k)) (by omega) (by omega)
    refine ⟨u', fun rec21 => ?_, (EFt.s (by omega) (by omega)).tr a2, ?_, ?_, fun j h1 h2 => ?_, fun j hj => ?_⟩
    · rw [f8_findFeet_135]
      simp (disch := omega) only [bE, bO, bV, bK, nI_lit, nI_add, lt_T, lt_F, le_T, le_F, eq_T, eq_F, ltm_T, ltm_F, lem_T, lem_F, eqm_F, meq_F, cl_nI, nle_T, nle_F, nlt_T, nlt_F, ↓reduceIte, or_true, true_or, or_false, false_or, and_true, true_and, and_false, false_and, not_true_eq_false, not_false_eq_true, or_self, and_self, true_implies, ite_self]
      exact a1 rec21
    · rw [a3, ky_sI (by omega)]
    · rw [a4, ky_sI (by omega)]
    · by_cases hz : j = k
      · subst hz; rw [a6 j (by omega), kx_sI, upd_s]
      · rw [a5 j (by omega) h2, ky_sI (by omega)]
    · rw [a6 j (by omega), kx_sI, upd_n (by omega)]
section Dfs
variable {nv Y Fo dy N : Nat} {ro fg : Nat → Nat} {u : Mem}
theorem TB.e {u' : Mem} (h : TB nv Y Fo dy N ro fg u) (e : EFt u u') : TB nv Y Fo dy N ro fg u' := ⟨h.1.k (fun k hk => e.2.1 k (by omega)), by rw [e.2.1 33 (by omega)]; exact h.2⟩
/-- the end of a level -/
theorem s21_end (h : TB nv Y Fo dy N ro fg u) (hN : N ≤ 10) {d : Nat} (hd : d < N) (e : u.1 32 34 d = nI nv + (-1)) (n : Nat) : f8_findFeet_21 (nI N) (n + 1) (nI d) u = f8_findFeet_21 (nI N) n (nI d + (-1)) (sI u 32 34 d (nI nv)) := by
  have hnv := h.1.1.1
  have e3 : (sI u 32 34 d (nI nv)).1 32 3 0 = nI nv := by rw [ky_sI (by omega)]; exact h.1.2.1
  have e1 : nI nv + (-1) + 1 = nI nv := by rw [Int32.add_assoc, show (-1 : Int32) + 1 = 0 from rfl, Int32.add_zero]
  have e4 : (sI u 32 34 d (nI nv)).1 32 34 d = nI nv := by rw [kx_sI, upd_s]
  rw [f8_findFeet_21]
  simp only [bE, cl_nI (show d < 2147483648 by omega), if_neg (nI_pos (show d < 2147483648 by omega)), if_neg (show ¬ (nI d < 0 ∨ 10 ≤ d) from fun z => z.elim (nI_pos (by omega)) (by omega)), e, e1, e4, e3, if_neg (show ¬ nI nv < nI nv from Int32.lt_irrefl)]
/-- one village of a level -/
theorem s21_v (h : TB nv Y Fo dy N ro fg u) (hN : N ≤ 10) {d v B r : Nat} {c : Nat → Nat} (hd : d + (r + 1) = N) (hv : v < nv) (e : u.1 32 34 d = nI v + (-1)) (hB : u.1 32 36 0 = nI B) (hB2 : B ≤ 1000000) (hc : ∀ j, j < d → c j < nv ∧ u.1 32 34 j = nI (c j)) (n : Nat) :
    f8_findFeet_21 (nI N) (n + 1) (nI d) u =
      if fr nv Y ro (fun j => anyB Fo fg (dy + j)) c d v = true ∧ spt ro (uN c d v) (d + 1) + lwf nv Y ro (fun j => anyB Fo fg (dy + j)) r (d + 1) (lat (uN c d v) (d + 1)) < B then
        (if r = 0 then f8_findFeet_135 (nI N) (f8_findFeet_21 (nI N) n) 100000 (nI d) 0 (sI (sI u 32 34 d (nI v)) 32 36 0 (nI (spt ro (uN c d v) N))) else f8_findFeet_21 (nI N) n (nI (d + 1)) (sI (sI u 32 34 d (nI v)) 32 34 (d + 1) (-1)))
      else f8_findFeet_21 (nI N) n (nI d) (sI u 32 34 d (nI v)) := by
  have hnv := h.1.1.1
  have hdy := h.1.1.2.2.2
  have h4 := h.e (EFt.s (u := u) (k := 34) (i := d) (x := nI v) (by omega) (by omega))
  have e1 : nI v + (-1) + 1 = nI v := by rw [Int32.add_assoc, show (-1 : Int32) + 1 = 0 from rfl, Int32.add_zero]
  have e4 : (sI u 32 34 d (nI v)).1 32 34 d = nI v := by rw [kx_sI, upd_s]
  have e3 := h4.1.2.1
  have e11 := h4.1.2.2.2.1
  have e36 : (sI u 32 34 d (nI v)).1 32 36 0 = nI B := by rw [ky_sI (by omega)]; exact hB
  have hc4 : ∀ j, j < d → c j < nv ∧ (sI u 32 34 d (nI v)).1 32 34 j = nI (c j) := fun j hj => ⟨(hc j hj).1, by rw [kx_sI, upd_n (by omega)]; exact (hc j hj).2⟩
  have hcu : ∀ j, j < d + 1 → uN c d v j < nv ∧ (sI u 32 34 d (nI v)).1 32 34 j = nI (uN c d v j) := fun j hj => by
    by_cases hz : j = d
    · subst hz; rw [uN_s]; exact ⟨hv, e4⟩
    · rw [uN_n hz]; exact hc4 j (by omega)
  obtain ⟨b, w1, w2⟩ := wc_ok h4.1 (d := d) (v := v) (c := c) (by omega) (by omega) (fun j hj => ⟨by have := (hc4 j hj).1; omega, (hc4 j hj).2⟩)
  have mg := may_ok h4.1 (v := v) (d := d) hv (by omega)
  have sp := sp_ok h4.1 (d := d + 1) (c := uN c d v) (by omega) hcu
  have la := la_ok (u := sI u 32 34 d (nI v)) (d := d + 1) (c := uN c d v) (by omega) (fun j hj => ⟨by have := (hcu j hj).1; omega, (hcu j hj).2⟩)
  have ll := lat_lt (c := uN c d v) (d := d + 1) (fun j hj => by have := (hcu j hj).1; omega)
  have tb := h4.2 (d + 1) (lat (uN c d v) (d + 1)) (by omega) ll
  have lw := lwf_le (nv := nv) (Y := Y) (ro := ro) (fog := fun j => anyB Fo fg (dy + j)) r (d + 1) (lat (uN c d v) (d + 1))
  have sl := spt_le (ro := ro) (c := uN c d v) (nv := nv) (fun x hx => (h.1.2.2.2.2.2.1 x hx).1) (d + 1) (fun j hj => (hcu j hj).1)
  rw [show N - (d + 1) = r by omega] at tb
  have frb : fr nv Y ro (fun j => anyB Fo fg (dy + j)) c d v = true ↔ b = false ∧ myg ro (fun j => anyB Fo fg (dy + j)) v d = true := by
    rw [fr_iff]
    constructor
    · rintro ⟨z1, z2, z3⟩
      refine ⟨?_, ?_⟩
      · cases hb : b with
        | false => rfl
        | true =>
          obtain ⟨a, q1, q2, q3⟩ := w2.mp hb
          exact absurd q3 (z2 a q1 q2)
      · exact myg_fr (fr_iff.mpr ⟨z1, z2, z3⟩)
    · rintro ⟨z1, z2⟩
      refine ⟨hv, fun j q1 q2 q3 => ?_, fun q => ?_⟩
      · rw [w2.mpr ⟨j, q1, q2, q3⟩] at z1; cases z1
      · unfold myg at z2
        rw [decide_eq_false (show ¬ ro v = 0 by omega), Bool.false_or] at z2
        have z3 : (!anyB Fo fg (dy + d)) = true := z2
        rw [q.1] at z3; cases z3
  have gd : ¬ (nI d < 0 ∨ 10 ≤ d) := fun z => z.elim (nI_pos (by omega)) (by omega)
  have ed : nI d + 1 = nI (d + 1) := nI_add d 1
  have eN : nI N - 1 = nI (N - 1) := pk_sub (b := 1) (by omega)
  have ix : (6561 : Int32) * nI (d + 1) + nI (lat (uN c d v) (d + 1)) = nI (6561 * (d + 1) + lat (uN c d v) (d + 1)) := by rw [nI_lit 6561, pk_mul, nI_add]
  have ib : 6561 * (d + 1) + lat (uN c d v) (d + 1) < 72171 := by omega
  rw [f8_findFeet_21]
  simp only [bE, cl_nI (show d < 2147483648 by omega), if_neg (nI_pos (show d < 2147483648 by omega)), if_neg gd, e, e1, e4, e3, if_pos (nI_lt hv (show nv < 2147483648 by omega)), w1, bO, e11, nI_add]
  cases hb : b with
  | true =>
    rw [if_pos rfl, if_neg (show ¬ nI 1 = (0 : Int32) by decide), if_neg (fun z => by have := (frb.mp z.1).1; rw [hb] at this; cases this)]
  | false =>
    rw [if_neg (show ¬ (false = true) by decide), if_pos (show nI 0 = (0 : Int32) from rfl), mg, bO]
    cases hm : myg ro (fun j => anyB Fo fg (dy + j)) v d with
    | false =>
      rw [if_neg (show ¬ (false = true) by decide), if_pos (show nI 0 = (0 : Int32) from rfl), if_neg (fun z => by have := (frb.mp z.1).2; rw [hm] at this; cases this)]
    | true =>
      have hf : fr nv Y ro (fun j => anyB Fo fg (dy + j)) c d v = true := frb.mpr ⟨hb, hm⟩
      rw [if_pos rfl, if_neg (show ¬ nI 1 = (0 : Int32) by decide), ed, sp, bO, la, bO, ix, if_neg (nI_in ib (by omega)), cl_nI (by omega), tb, e36, nI_add]
      by_cases hl : spt ro (uN c d v) (d + 1) + lwf nv Y ro (fun j => anyB Fo fg (dy + j)) r (d + 1) (lat (uN c d v) (d + 1)) < B
      · have hcond : fr nv Y ro (fun j => anyB Fo fg (dy + j)) c d v = true ∧ spt ro (uN c d v) (d + 1) + lwf nv Y ro (fun j => anyB Fo fg (dy + j)) r (d + 1) (lat (uN c d v) (d + 1)) < B := ⟨hf, hl⟩
        rw [if_neg (nI_ge hl (by omega)), if_pos hcond, eN]
        by_cases hr : r = 0
        · have hdN : d + 1 = N := by omega
          rw [if_pos (show nI d = nI (N - 1) by rw [show d = N - 1 by omega]), if_pos hr]
          rw [hdN] at sp
          rw [sp, bO]
        · rw [if_neg (show ¬ nI d = nI (N - 1) from fun z => absurd ((nI_eq (by omega) (by omega)).mp z) (by omega)), if_neg hr]
          rw [if_neg (nI_in (show d + 1 < 10 by omega) (by omega)), cl_nI (by omega)]
      · rw [if_pos (nI_le (by omega) (by omega)), if_neg (fun z => hl z.2)]
end Dfs
