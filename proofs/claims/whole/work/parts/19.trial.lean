/-! days that are only tried -/
theorem cpy0 {α : Type} {f g : Nat → α} {n k : Nat} (h : k < n) : va_cpy f g 0 0 n k = f k := by
  unfold va_cpy
  rw [if_pos ⟨Nat.zero_le k, by omega⟩, Nat.zero_add, Nat.sub_zero]
def goT (D E : Nat → Nat → Int32) : Nat → Nat → Int32 := uK (uK (uK (uK (uK (uK (uK (uK (uK (uK (uK (uK (uK E 0 (va_cpy (D 0) (E 0) 0 0 8)) 1 (va_cpy (D 1) (E 1) 0 0 8)) 2 (va_cpy (D 2) (E 2) 0 0 17)) 4 (upd (E 4) 0 (D 4 0))) 5 (upd (E 5) 0 (D 5 0))) 6 (upd (E 6) 0 (D 6 0))) 7 (upd (E 7) 0 (D 7 0))) 8 (upd (E 8) 0 (D 8 0))) 9 (upd (E 9) 0 (D 9 0))) 10 (upd (E 10) 0 (D 10 0))) 11 (upd (E 11) 0 (D 11 0))) 12 (upd (E 12) 0 (D 12 0))) 13 (upd (E 13) 0 (D 13 0))
def cpT (D E : Nat → Nat → Int32) : Nat → Nat → Int32 := uK (goT D E) 3 (va_cpy (D 3) (E 3) 0 0 60)
theorem bl_and {x : Int32} (h : x = 0 ∨ x = 1) : x &&& 1 = x := by rcases h with rfl | rfl <;> rfl
theorem go_ok {w : Mem} {d0 d1 : Nat} (hd : d1 ≠ d0) (hb : w.1 d1 13 0 = 0 ∨ w.1 d1 13 0 = 1) : f1_goOnFrom d0 d1 w = some (sO w d0 (goT (w.1 d1) (w.1 d0))) := by
  have h0 : f1_goOnFrom d0 d1 w = f1_goOnFrom d0 d1 (sO w d0 (w.1 d0)) := by rw [sO_id]
  rw [h0]
  unfold f1_goOnFrom goT
  simp (disch := omega) only [bE, sI_sO, sA_sO, sO_s, sO_n hd, uK_n, uK_s, bl_and hb, not_true_eq_false, if_false]
theorem cp_ok {w : Mem} {d0 d1 : Nat} (hd : d1 ≠ d0) (hb : w.1 d1 13 0 = 0 ∨ w.1 d1 13 0 = 1) : f1_copy d0 d1 w = some (sO w d0 (cpT (w.1 d1) (w.1 d0))) := by
  unfold f1_copy
  rw [go_ok hd hb]
  unfold cpT
  simp (disch := omega) only [bV, bE, sA_sO, sO_s, sO_n hd]
  rw [show goT (w.1 d1) (w.1 d0) 3 = w.1 d0 3 by unfold goT; simp (disch := omega) only [uK_n]]
theorem RD.go {qh nv B : Nat} {D E : Nat → Nat → Int32} {N : Nat → Int32} (hnv : nv ≤ 8) (h : RD qh nv B D N) : RD 0 nv B (goT D E) N := by
  obtain ⟨dy, wt, fa, em, sh0, st, k1, k2, k3, k4, k5, k6, ⟨b1, c1⟩, ⟨b2, c2⟩, ⟨b3, c3⟩, ⟨b4, c4⟩, ⟨b5, c5⟩, ⟨b6, c6⟩, ⟨b7, b8, b9, b10, b11⟩, b12, b13, b14, b15⟩ := h
  refine ⟨dy, wt, fa, em, sh0, st, k1, k2, k3, k4, k5, k6, ?_, ?_, ?_, ?_, ?_, ?_, ?_, ?_, ?_, ?_, ?_⟩
  all_goals unfold goT
  · simp (disch := omega) only [uK_n, uK_s, upd_s, b1, c1, and_self]
  · simp (disch := omega) only [uK_n, uK_s, upd_s, b2, c2, and_self]
  · simp (disch := omega) only [uK_n, uK_s, upd_s, b3, c3, and_self]
  · simp (disch := omega) only [uK_n, uK_s, upd_s, b4, c4, and_self]
  · simp (disch := omega) only [uK_n, uK_s, upd_s, b5, c5, and_self]
  · simp (disch := omega) only [uK_n, uK_s, upd_s, b6, c6, and_self]
  · simp (disch := omega) only [uK_s, uK_n, upd_s]
    exact ⟨b7, b8, b9, b10, b11⟩
  · intro v hv
    simp (disch := omega) only [uK_n, uK_s]
    rw [cpy0 (by omega)]; exact b12 v hv
  · intro v hv
    simp (disch := omega) only [uK_n, uK_s]
    rw [cpy0 (by omega)]; exact b13 v hv
  · intro k hk
    simp (disch := omega) only [uK_n, uK_s]
    rw [cpy0 (by omega)]; exact b14 k hk
  · intro q hq hq2 hq3
    exact absurd hq3 (by omega)
theorem RD.cp {qh nv B : Nat} {D E : Nat → Nat → Int32} {N : Nat → Int32} (hnv : nv ≤ 8) (h : RD qh nv B D N) : RD qh nv B (cpT D E) N := by
  obtain ⟨dy, wt, fa, em, sh0, st, k1, k2, k3, k4, k5, k6, ⟨b1, c1⟩, ⟨b2, c2⟩, ⟨b3, c3⟩, ⟨b4, c4⟩, ⟨b5, c5⟩, ⟨b6, c6⟩, ⟨b7, b8, b9, b10, b11⟩, b12, b13, b14, b15⟩ := h
  refine ⟨dy, wt, fa, em, sh0, st, k1, k2, k3, k4, k5, k6, ?_, ?_, ?_, ?_, ?_, ?_, ?_, ?_, ?_, ?_, ?_⟩
  all_goals unfold cpT goT
  · simp (disch := omega) only [uK_n, uK_s, upd_s, b1, c1, and_self]
  · simp (disch := omega) only [uK_n, uK_s, upd_s, b2, c2, and_self]
  · simp (disch := omega) only [uK_n, uK_s, upd_s, b3, c3, and_self]
  · simp (disch := omega) only [uK_n, uK_s, upd_s, b4, c4, and_self]
  · simp (disch := omega) only [uK_n, uK_s, upd_s, b5, c5, and_self]
  · simp (disch := omega) only [uK_n, uK_s, upd_s, b6, c6, and_self]
  · simp (disch := omega) only [uK_s, uK_n, upd_s]
    exact ⟨b7, b8, b9, b10, b11⟩
  · intro v hv
    simp (disch := omega) only [uK_n, uK_s]
    rw [cpy0 (by omega)]; exact b12 v hv
  · intro v hv
    simp (disch := omega) only [uK_n, uK_s]
    rw [cpy0 (by omega)]; exact b13 v hv
  · intro k hk
    simp (disch := omega) only [uK_n, uK_s]
    rw [cpy0 (by omega)]; exact b14 k hk
  · intro q hq hq2 hq3
    simp (disch := omega) only [uK_n, uK_s]
    rw [cpy0 (by omega)]; exact b15 q hq hq2 hq3
theorem RD.cong {qh nv B : Nat} {D : Nat → Nat → Int32} {N N' : Nat → Int32} (hnv : nv ≤ 8) (h : RD qh nv B D N) (e : ∀ k, k < 103 → N' k = N k) : RD qh nv B D N' := by
  obtain ⟨dy, wt, fa, em, sh0, st, k1, k2, k3, k4, k5, k6, b1, b2, b3, b4, b5, b6, b7, b12, b13, b14, b15⟩ := h
  refine ⟨dy, wt, fa, em, sh0, st, k1, k2, k3, k4, k5, k6, ?_, ?_, ?_, ?_, ?_, ?_, ?_, ?_, ?_, ?_, ?_⟩
  · rw [e 0 (by omega)]; exact b1
  · rw [e 9 (by omega)]; exact b2
  · rw [e 4 (by omega)]; exact b3
  · rw [e 5 (by omega)]; exact b4
  · rw [e 7 (by omega)]; exact b5
  · rw [e 8 (by omega)]; exact b6
  · rw [e 1 (by omega), e 2 (by omega), e 3 (by omega), e 6 (by omega)]; exact b7
  · intro v hv
    rw [e _ (by omega)]; exact b12 v hv
  · intro v hv
    rw [e _ (by omega)]; exact b13 v hv
  · intro k hk
    rw [e _ (by omega)]; exact b14 k hk
  · intro q hq hq2
    rw [e _ (by omega)]; exact b15 q hq hq2
/-- after a trial -/
theorem Rel.put {n m : Nat} {w w' : Mem} (h : Rel n w) (hm : n ≤ m) (e1 : ∀ d, d ≠ 1 → d ≠ 32 → w'.1 d = w.1 d) (e2 : w'.2 = w.2) (e3 : ∀ k, k ≠ 11 → k ≠ 31 → w'.1 32 k = w.1 32 k) (e4 : ∀ k, k < 103 → w'.1 32 11 k = w.1 32 11 k) : Rel m w' := by
  obtain ⟨⟨g, nv, K, Y, I, F, Fo, ro, pe, fe, fs, fg, h1, h2, h3, h4, h5, h6, h7⟩, hT, hF, hN⟩ := h
  have hg : g ≠ 1 ∧ g ≠ 32 := by omega
  refine ⟨⟨g, nv, K, Y, I, F, Fo, ro, pe, fe, fs, fg, h1, ?_, ?_, ?_, ?_, ?_, ?_⟩, ?_, ?_, ?_⟩
  · rw [e2]; exact h2
  · rw [e1 g hg.1 hg.2, e2]
    exact ⟨h3.1, (h3.c (M' := fun k => if k = 11 then w.1 32 11 else w'.1 32 k) (fun k hk => by rw [if_neg (by omega)]; exact e3 k (by omega) (by omega))).2⟩
  · rw [e1 0 (by omega) (by omega)]
    exact (h4.cong h3.1.1 e4).mono (by omega)
  · exact h5.same (fun d hd hd2 => e1 d (by omega) (by omega)) (by rw [e1 28 (by omega) (by omega)]) (by rw [e1 28 (by omega) (by omega)]) (e3 29 (by omega) (by omega)) (e3 30 (by omega) (by omega)) (by omega)
  · exact h6.same (e1 2 (by omega) (by omega)) (e1 3 (by omega) (by omega)) (by rw [e1 26 (by omega) (by omega)]) (by rw [e1 26 (by omega) (by omega)]) (e3 43 (by omega) (by omega)) (e3 44 (by omega) (by omega)) (by omega)
  · unfold RSd; rw [e1 26 (by omega) (by omega), e3 12 (by omega) (by omega)]; exact h7
  · exact hT.same (by rw [e1 26 (by omega) (by omega)]) (by rw [e1 26 (by omega) (by omega)]) (e3 13 (by omega) (by omega)) (e3 14 (by omega) (by omega)) hm
  · exact hF.same (by rw [e1 26 (by omega) (by omega)]) (e3 15 (by omega) (by omega))
  · exact hN.same (fun k hk => by rw [e1 29 (by omega) (by omega)]) (fun k hk hk2 => e3 k (by omega) (by omega))
/-- the reference saves its row, and puts it back -/
def cpr (f g : Nat → Int32) (n : Nat) : Nat → Int32 := fun k => if k < n then f k else g k
theorem cpr_s (f g : Nat → Int32) (n : Nat) : upd (cpr f g n) n (f n) = cpr f g (n + 1) := by
  funext k
  unfold cpr
  by_cases h : k = n
  · subst h; rw [upd_s, if_pos (by omega)]
  · rw [upd_n h]
    by_cases h2 : k < n
    · rw [if_pos h2, if_pos (by omega)]
    · rw [if_neg h2, if_neg (by omega)]
theorem cpr_0 (f g : Nat → Int32) : cpr f g 0 = g := by
  funext k; exact if_neg (by omega)
theorem save_ok {w : Mem} : f8_save w = some (sA w 32 31 (cpr (w.1 32 11) (w.1 32 31) 103)) := by
  have h : ∀ (k v n : Nat), v + k = 103 → k < n → f8_save_2 n (nI v) (sA w 32 31 (cpr (w.1 32 11) (w.1 32 31) v)) = some (sA w 32 31 (cpr (w.1 32 11) (w.1 32 31) 103)) := by
    intro k
    induction k with
    | zero =>
      intro v n hv hn
      obtain ⟨n, rfl⟩ : ∃ m, n = m + 1 := ⟨n - 1, by omega⟩
      rw [f8_save_2]
      obtain rfl : v = 103 := by omega
      simp (disch := omega) only [bE, bO, bV, bK, nI_lit, nI_add, lt_T, lt_F, le_T, le_F, eq_T, eq_F, ltm_T, ltm_F, lem_T, lem_F, eqm_F, meq_F, cl_nI, nle_T, nle_F, nlt_T, nlt_F, ↓reduceIte, or_true, true_or, or_false, false_or, and_true, true_and, and_false, false_and, not_true_eq_false, not_false_eq_true, or_self, and_self, true_implies, ite_self]
    | succ k ih =>
      intro v n hv hn
      obtain ⟨n, rfl⟩ : ∃ m, n = m + 1 := ⟨n - 1, by omega⟩
      have i1 := ih (v + 1) n (by omega) (by omega)
      rw [← cpr_s] at i1
      rw [f8_save_2]
      simp (disch := omega) only [bE, bO, bV, bK, nI_lit, nI_add, lt_T, lt_F, le_T, le_F, eq_T, eq_F, ltm_T, ltm_F, lem_T, lem_F, eqm_F, meq_F, cl_nI, nle_T, nle_F, nlt_T, nlt_F, ↓reduceIte, or_true, true_or, or_false, false_or, and_true, true_and, and_false, false_and, not_true_eq_false, not_false_eq_true, or_self, and_self, true_implies, ite_self, sI_A, ky_sA, kx_sA]
      exact i1
  have := h 103 0 100000 (by omega) (by omega)
  rw [cpr_0, sA_id] at this
  exact this
theorem put_ok {w : Mem} : f8_putBack w = some (sA w 32 11 (cpr (w.1 32 31) (w.1 32 11) 103)) := by
  have h : ∀ (k v n : Nat), v + k = 103 → k < n → f8_putBack_2 n (nI v) (sA w 32 11 (cpr (w.1 32 31) (w.1 32 11) v)) = some (sA w 32 11 (cpr (w.1 32 31) (w.1 32 11) 103)) := by
    intro k
    induction k with
    | zero =>
      intro v n hv hn
      obtain ⟨n, rfl⟩ : ∃ m, n = m + 1 := ⟨n - 1, by omega⟩
      rw [f8_putBack_2]
      obtain rfl : v = 103 := by omega
      simp (disch := omega) only [bE, bO, bV, bK, nI_lit, nI_add, lt_T, lt_F, le_T, le_F, eq_T, eq_F, ltm_T, ltm_F, lem_T, lem_F, eqm_F, meq_F, cl_nI, nle_T, nle_F, nlt_T, nlt_F, ↓reduceIte, or_true, true_or, or_false, false_or, and_true, true_and, and_false, false_and, not_true_eq_false, not_false_eq_true, or_self, and_self, true_implies, ite_self]
    | succ k ih =>
      intro v n hv hn
      obtain ⟨n, rfl⟩ : ∃ m, n = m + 1 := ⟨n - 1, by omega⟩
      have i1 := ih (v + 1) n (by omega) (by omega)
      rw [← cpr_s] at i1
      rw [f8_putBack_2]
      simp (disch := omega) only [bE, bO, bV, bK, nI_lit, nI_add, lt_T, lt_F, le_T, le_F, eq_T, eq_F, ltm_T, ltm_F, lem_T, lem_F, eqm_F, meq_F, cl_nI, nle_T, nle_F, nlt_T, nlt_F, ↓reduceIte, or_true, true_or, or_false, false_or, and_true, true_and, and_false, false_and, not_true_eq_false, not_false_eq_true, or_self, and_self, true_implies, ite_self, sI_A, ky_sA, kx_sA]
      exact i1
  have := h 103 0 100000 (by omega) (by omega)
  rw [cpr_0, sA_id] at this
  exact this
section Rock
variable {nv K Y I F Fo : Nat} {ro pe fe fs fg : Nat → Nat} {G : Nat → Nat → Int32} {GL : Nat → Nat → Int64} {M : Nat → Nat → Int32}
def Day1 (i : Nat) (G : Nat → Nat → Int32) (GL : Nat → Nat → Int64) (M : Nat → Nat → Int32) (D : Nat → Nat → Int32) (N : Nat → Int32) (D' : Nat → Nat → Int32) (N' : Nat → Int32) : Prop :=
  Mon N N' ∧ (∀ w d g, g ≠ d → w.1 g = G → w.2.1 g = GL → f1_live d g (nI i) (sO w d D) = some (sO w d D')) ∧ (∀ w g, g ≠ 32 → w.1 g = G → w.2.1 g = GL → (∀ k, k ≤ 10 → w.1 32 k = M k) → f8_pass (nI i) (sA w 32 11 N) = some (sA w 32 11 N'))
theorem traj {qh B i : Nat} {D : Nat → Nat → Int32} {N : Nat → Int32} (h : RD qh nv B D N) (hG : RG nv K Y I F Fo ro pe fe fs fg G GL M) (hi : i ≤ 9) : ∀ n, B + n < 900000 → ∃ (Ds : Nat → Nat → Nat → Int32) (Ns : Nat → Nat → Int32), Ds 0 = D ∧ Ns 0 = N ∧ (∀ k, k ≤ n → RD qh nv (B + k) (Ds k) (Ns k)) ∧ ∀ k, k < n → Day1 i G GL M (Ds k) (Ns k) (Ds (k + 1)) (Ns (k + 1)) := by
  intro n
  induction n with
  | zero =>
    intro hB
    refine ⟨fun _ => D, fun _ => N, rfl, rfl, fun k hk => ?_, fun k hk => absurd hk (by omega)⟩
    exact h.mono (by omega)
  | succ n ih =>
    intro hB
    obtain ⟨Ds, Ns, h1, h2, h3, h4⟩ := ih (by omega)
    obtain ⟨D', N', t1, t2, t3, t4⟩ := day_ok (h3 n (by omega)) hG (by omega) hi
    refine ⟨fun k => if k = n + 1 then D' else Ds k, fun k => if k = n + 1 then N' else Ns k, ?_, ?_, fun k hk => ?_, fun k hk => ?_⟩
    · dsimp only; rw [if_neg (by omega)]; exact h1
    · dsimp only; rw [if_neg (by omega)]; exact h2
    · dsimp only
      by_cases hz : k = n + 1
      · subst hz; rw [if_pos rfl, if_pos rfl]; exact t1
      · rw [if_neg hz, if_neg hz]; exact h3 k (by omega)
    · dsimp only
      by_cases hz : k = n
      · subst hz
        rw [if_neg (by omega), if_neg (by omega), if_pos rfl, if_pos rfl]
        exact ⟨t2, t3, t4⟩
      · rw [if_neg (by omega), if_neg (by omega), if_neg (by omega), if_neg (by omega)]
        exact h4 k (by omega)
end Rock
