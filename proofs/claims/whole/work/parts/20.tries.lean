/-! whenDown, ahead -/
/-- what a trial needs of the memory, on the side of the class, and on the side of the reference -/
def CL (g : Nat) (G : Nat → Nat → Int32) (GL : Nat → Nat → Int64) (w : Mem) : Prop := (g = 24 ∨ g = 25) ∧ w.2.2 26 4 = (g, 0) ∧ w.1 g = G ∧ w.2.1 g = GL
def ML (g : Nat) (G : Nat → Nat → Int32) (GL : Nat → Nat → Int64) (M : Nat → Nat → Int32) (w : Mem) : Prop := (g = 24 ∨ g = 25) ∧ w.1 g = G ∧ w.2.1 g = GL ∧ ∀ k, k ≤ 10 → w.1 32 k = M k
theorem RD.dn {qh nv B : Nat} {D : Nat → Nat → Int32} {N : Nat → Int32} (h : RD qh nv B D N) : D 13 0 = N 2 ∧ (N 2 = 0 ∨ N 2 = 1) ∧ D 6 0 = N 0 ∧ D 9 0 = N 4 ∧ D 10 0 = N 5 ∧ D 12 0 = N 7 := by
  obtain ⟨dy, wt, fa, em, sh, st, k1, k2, k3, k4, k5, k6, ⟨b1, c1⟩, ⟨b2, c2⟩, ⟨b3, c3⟩, ⟨b4, c4⟩, ⟨b5, c5⟩, ⟨b6, c6⟩, ⟨b7, b8, b9, b10, b11⟩, b12⟩ := h
  exact ⟨b8, b9, by rw [b1, c1], by rw [b3, c3], by rw [b4, c4], by rw [b5, c5]⟩
theorem fin_rel {n : Nat} {w : Mem} (h : Rel n w) (T : Nat → Nat → Int32) (N' : Nat → Int32) : Rel (n + 1) (sA (sA (sA (sO w 1 T) 32 31 (cpr (w.1 32 11) (w.1 32 31) 103)) 32 11 N') 32 11 (cpr (cpr (w.1 32 11) (w.1 32 31) 103) N' 103)) := by
  refine h.put (by omega) (fun d h1 h2 => ?_) ?_ (fun k h1 h2 => ?_) (fun k hk => ?_)
  · rw [ob_sA h2, ob_sA h2, ob_sA h2, sO_n h1]
  · rw [sA_2, sA_2, sA_2, sO_2]
  · rw [ky_sA (by omega), ky_sA (by omega), ky_sA (by omega), sO_n (by omega)]
  · rw [kx_sA]
    unfold cpr
    rw [if_pos hk, if_pos hk]
theorem save_T (w : Mem) (T : Nat → Nat → Int32) : f8_save (sO w 1 T) = some (sA (sA (sO w 1 T) 32 31 (cpr (w.1 32 11) (w.1 32 31) 103)) 32 11 (w.1 32 11)) := by
  have z := save_ok (w := sO w 1 T)
  rw [sO_n (show 32 ≠ 1 by omega)] at z
  rw [z]
  have z2 : (sA (sO w 1 T) 32 31 (cpr (w.1 32 11) (w.1 32 31) 103)).1 32 11 = w.1 32 11 := by rw [ky_sA (by omega), sO_n (by omega)]
  have z3 := sA_id (sA (sO w 1 T) 32 31 (cpr (w.1 32 11) (w.1 32 31) 103)) 32 11
  rw [z2] at z3
  rw [z3]
section Rock
variable {nv K Y I F Fo : Nat} {ro pe fe fs fg : Nat → Nat} {G : Nat → Nat → Int32} {GL : Nat → Nat → Int64} {M : Nat → Nat → Int32}
theorem wd_loop {g B : Nat} {Ds : Nat → Nat → Nat → Int32} {Ns : Nat → Nat → Int32} (h3 : ∀ k, k ≤ 999 → RD 0 nv (B + k) (Ds k) (Ns k)) (h4 : ∀ k, k < 999 → Day1 I G GL M (Ds k) (Ns k) (Ds (k + 1)) (Ns (k + 1))) (hI : G 3 0 = nI I) (hJ : M 2 0 = nI I) {w : Mem} (hw : CL g G GL w) :
    ∀ (j k n : Nat), k + j = 999 → j < n → Ns k 2 = 0 → ∃ m, m ≤ 999 ∧ f7_whenDown_36 n (nI k) (sO w 1 (Ds k)) = some (if Ns m 2 = 1 then Ns m 0 - 1 else -1, sO w 1 (Ds m)) ∧ ∀ n' w', ML g G GL M w' → j < n' → f8_whenDown_26 n' (nI k) (sA w' 32 11 (Ns k)) = f8_whenDown_56 (sA w' 32 11 (Ns m)) := by
  obtain ⟨g1, g2, g3, g4⟩ := hw
  intro j
  induction j with
  | zero =>
    intro k n hk hn h0
    obtain ⟨n, rfl⟩ : ∃ m, n = m + 1 := ⟨n - 1, by omega⟩
    obtain rfl : k = 999 := by omega
    refine ⟨999, by omega, ?_, fun n' w' hw' hn' => ?_⟩
    · rw [f7_whenDown_36, h0]
      simp (disch := omega) only [bE, bO, bV, bK, nI_lit, nI_add, lt_T, lt_F, le_T, le_F, eq_T, eq_F, ltm_T, ltm_F, lem_T, lem_F, eqm_F, meq_F, cl_nI, nle_T, nle_F, nlt_T, nlt_F, ↓reduceIte, or_true, true_or, or_false, false_or, and_true, true_and, and_false, false_and, not_true_eq_false, not_false_eq_true, or_self, and_self, true_implies, ite_self]
    · obtain ⟨n', rfl⟩ : ∃ m, n' = m + 1 := ⟨n' - 1, by omega⟩
      rw [f8_whenDown_26]
      simp (disch := omega) only [bE, bO, bV, bK, nI_lit, nI_add, lt_T, lt_F, le_T, le_F, eq_T, eq_F, ltm_T, ltm_F, lem_T, lem_F, eqm_F, meq_F, cl_nI, nle_T, nle_F, nlt_T, nlt_F, ↓reduceIte, or_true, true_or, or_false, false_or, and_true, true_and, and_false, false_and, not_true_eq_false, not_false_eq_true, or_self, and_self, true_implies, ite_self]
  | succ j ih =>
    intro k n hk hn h0
    obtain ⟨n, rfl⟩ : ∃ m, n = m + 1 := ⟨n - 1, by omega⟩
    obtain ⟨s1, s2, s3⟩ := h4 k (by omega)
    have d1 := (h3 (k + 1) (by omega)).dn
    have z2 := s2 w 1 g (by omega) g3 g4
    have gg : (sO w 1 (Ds k)).1 g 3 0 = nI I := by rw [sO_n (by omega), g3]; exact hI
    have st7 : f7_whenDown_36 (n + 1) (nI k) (sO w 1 (Ds k)) = if (Ns (k + 1) 2) = 0 then f7_whenDown_36 n (nI (k + 1)) (sO w 1 (Ds (k + 1))) else some (Ns (k + 1) 0 - 1, sO w 1 (Ds (k + 1))) := by
      rw [f7_whenDown_36]
      simp (disch := omega) only [bE, bO, bV, bK, nI_lit, nI_add, lt_T, lt_F, le_T, le_F, eq_T, eq_F, ltm_T, ltm_F, lem_T, lem_F, eqm_F, meq_F, cl_nI, nle_T, nle_F, nlt_T, nlt_F, ↓reduceIte, or_true, true_or, or_false, false_or, and_true, true_and, and_false, false_and, not_true_eq_false, not_false_eq_true, or_self, and_self, true_implies, ite_self, sO_2, rk_g g1 g2, gg, z2, sO_s, d1.1, d1.2.2.1]
      rfl
    have st8 : ∀ n' w', ML g G GL M w' → f8_whenDown_26 (n' + 1) (nI k) (sA w' 32 11 (Ns k)) = f8_whenDown_26 n' (nI (k + 1)) (sA w' 32 11 (Ns (k + 1))) := by
      intro n' w' ⟨x1, x2, x3, x4⟩
      have z3 := s3 w' g (by omega) x2 x3 x4
      have gg2 : w'.1 32 2 0 = nI I := by rw [x4 2 (by omega)]; exact hJ
      rw [f8_whenDown_26]
      simp (disch := omega) only [bE, bO, bV, bK, nI_lit, nI_add, lt_T, lt_F, le_T, le_F, eq_T, eq_F, ltm_T, ltm_F, lem_T, lem_F, eqm_F, meq_F, cl_nI, nle_T, nle_F, nlt_T, nlt_F, ↓reduceIte, or_true, true_or, or_false, false_or, and_true, true_and, and_false, false_and, not_true_eq_false, not_false_eq_true, or_self, and_self, true_implies, ite_self, kx_sA, ky_sA, gg2, h0, z3]
    rcases d1.2.1 with e0 | e0
    · obtain ⟨m, m1, m2, m3⟩ := ih (k + 1) n (by omega) (by omega) e0
      refine ⟨m, m1, ?_, fun n' w' hw' hn' => ?_⟩
      · rw [st7, if_pos e0]; exact m2
      · obtain ⟨n', rfl⟩ : ∃ m, n' = m + 1 := ⟨n' - 1, by omega⟩
        rw [st8 n' w' hw']
        exact m3 n' w' hw' (by omega)
    · refine ⟨k + 1, by omega, ?_, fun n' w' hw' hn' => ?_⟩
      · rw [st7, if_neg (by rw [e0]; decide), if_pos e0]
      · obtain ⟨n', rfl⟩ : ∃ m, n' = m + 2 := ⟨n' - 2, by omega⟩
        rw [st8 (n' + 1) w' hw', f8_whenDown_26]
        simp only [kx_sA, e0]
        simp only [show ((1 : Int32) = 0) = False from eq_false (by decide), if_false, ite_self]
end Rock
theorem q_whenDown {n : Nat} {w : Mem} (hn : n < 100) (h : Rel n w) : Same n w f7_whenDown f8_whenDown := by
  obtain ⟨⟨g, nv, K, Y, I, F, Fo, ro, pe, fe, fs, fg, h1, h2, h3, h4, h5, h6, h7⟩, hT, hF, hN⟩ := id h
  have h30 := h3
  obtain ⟨⟨q1, q2, q3, q4, q5, q6, q7⟩, r0, ⟨r1, s1⟩, ⟨r2, s2⟩, ⟨r3, s3⟩, -⟩ := h3
  have d0 := h4.dn
  rcases Nat.eq_zero_or_pos K with rfl | hK
  · refine ⟨-1000000003, w, w, ?_, ?_, h.next (by omega)⟩
    · unfold f7_whenDown
      rw [rk_g h1 h2.1]; simp only [bK]
      rw [r0]; rfl
    · unfold f8_whenDown
      rw [s1]; rfl
  · rw [if_neg (by omega)] at r0
    rcases d0.2.1 with e0 | e0
    · obtain ⟨Ds, Ns, t1, t2, t3, t4⟩ := traj (h4.go q1 (E := w.1 1)) h30 q4 999 (by omega)
      obtain ⟨m, m1, m2, m3⟩ := wd_loop t3 t4 r3 s3 (w := w) ⟨h1, h2.1, rfl, rfl⟩ 999 0 100000 (by omega) (by omega) (by rw [t2]; exact e0)
      have m4 := m3 100000 (sA (sO w 1 (Ds m)) 32 31 (cpr (w.1 32 11) (w.1 32 31) 103)) ⟨h1, by rw [ob_sA (by omega), sO_n (by omega)], by rw [sA_2, sO_2], fun k hk => by rw [ky_sA (by omega), sO_n (by omega)]⟩ (by omega)
      refine ⟨(if Ns m 2 = 1 then Ns m 0 - 1 else -1), sO w 1 (Ds m), _, ?_, ?_, fin_rel h (Ds m) (Ns m)⟩
      · unfold f7_whenDown
        have z := go_ok (w := w) (d0 := 1) (d1 := 0) (by omega) (by rw [d0.1]; exact d0.2.1)
        rw [← t1] at z
        rw [rk_g h1 h2.1]; simp only [bK]
        rw [r0, if_neg (by decide), d0.1, e0, if_pos rfl, z, bV]
        exact m2
      · unfold f8_whenDown
        have z := save_T w (Ds m)
        rw [sO_n (show 32 ≠ 1 by omega)]
        rw [t2] at m4
        rw [s1, if_neg (by rw [show (0 : Int32) = nI 0 from rfl, eq_F (by omega) (by omega) (by omega)]; exact not_false), e0, if_neg (by decide), z, bV]
        refine m4.trans ?_
        unfold f8_whenDown_56 f8_whenDown_78
        have z3 := put_ok (w := sA (sA (sO w 1 (Ds m)) 32 31 (cpr (w.1 32 11) (w.1 32 31) 103)) 32 11 (Ns m))
        rw [z3, kx_sA, ky_sA (by omega), kx_sA]
        simp only [bV]
        by_cases hz : Ns m 2 = 1
        · rw [if_pos hz, if_pos hz]
        · rw [if_neg hz, if_neg hz]
    · refine ⟨-1000000003, w, w, ?_, ?_, h.next (by omega)⟩
      · unfold f7_whenDown
        rw [rk_g h1 h2.1]; simp only [bK]
        rw [r0, d0.1, e0]; rfl
      · unfold f8_whenDown
        rw [e0, if_pos rfl, ite_self]
