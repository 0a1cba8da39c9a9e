/-! the least feet: both sides -/
section Dfs
variable {nv Y Fo dy N : Nat} {ro fg : Nat → Nat}
theorem dfs (hN : N ≤ 10) : ∀ r d c u, d + (r + 1) = N → TB nv Y Fo dy N ro fg u → (∀ j, j < d → c j < nv ∧ u.1 32 34 j = nI (c j)) → ∀ B, u.1 32 36 0 = nI B → B ≤ 1000000 → u.1 32 34 d = -1 → ∃ q u', q ≤ 10 * 9 ^ (r + 1) ∧ (∀ n, f8_findFeet_21 (nI N) (n + q) (nI d) u = f8_findFeet_21 (nI N) n (nI d + (-1)) u') ∧ EFt u u' ∧ (∀ j, j < d → u'.1 32 34 j = u.1 32 34 j) ∧ BS N B (spt ro c d + opt nv Y ro (fun j => anyB Fo fg (dy + j)) (r + 1) d c) (u.1 32 35) (pl nv Y ro (fun j => anyB Fo fg (dy + j)) (r + 1) d c) u' := by
  intro r
  induction r with
  | zero =>
    intro d c u hd h hc B hB hB2 hm
    have hnv := h.1.1.1
    obtain ⟨q, u', a1, a2, a3, a4, a5⟩ := lvl (Y := Y) (Fo := Fo) (dy := dy) (ro := ro) (fg := fg) hN (r := 0) (B0 := B) (Q := 0) (E0 := u.1 32 35) hd hB2 (fun j hj => (hc j hj).1) rfl rfl (fun z => absurd rfl z) nv 0 u (by omega) h (fun j hj => (hc j hj).2) (by rw [hm]; rfl) ⟨fun z => by rw [mnv] at z; omega, fun _ => ⟨hB, fun _ _ => rfl⟩⟩
    exact ⟨q, u', by omega, a2, a3, a4, a5⟩
  | succ r ih =>
    intro d c u hd h hc B hB hB2 hm
    have hnv := h.1.1.1
    obtain ⟨q, u', a1, a2, a3, a4, a5⟩ := lvl (Y := Y) (Fo := Fo) (dy := dy) (ro := ro) (fg := fg) hN (r := r + 1) (B0 := B) (Q := 10 * 9 ^ (r + 1)) (E0 := u.1 32 35) hd hB2 (fun j hj => (hc j hj).1) rfl rfl (fun _ c' u0 h0 hc0 B' hB' hB2' hm' => ih (d + 1) c' u0 (by omega) h0 hc0 B' hB' hB2' hm') nv 0 u (by omega) h (fun j hj => (hc j hj).2) (by rw [hm]; rfl) ⟨fun z => by rw [mnv] at z; omega, fun _ => ⟨hB, fun _ _ => rfl⟩⟩
    refine ⟨q, u', ?_, a2, a3, a4, a5⟩
    have e1 : 1 ≤ 9 ^ (r + 1) := Nat.pow_pos (by omega)
    have e2 : nv * (1 + 10 * 9 ^ (r + 1)) ≤ 8 * (1 + 10 * 9 ^ (r + 1)) := Nat.mul_le_mul_right _ hnv
    rw [Nat.pow_succ 9 (r + 1)]
    omega
theorem ff_ok {w : Mem} (h : PF nv Y Fo dy ro fg w) (hN : N ≤ 10) (hN1 : 1 ≤ N) : ∃ u', f8_findFeet (nI N) w = some u' ∧ (∀ d, d ≠ 32 → u'.1 d = w.1 d) ∧ (∀ k, k < 33 ∨ 36 < k → u'.1 32 k = w.1 32 k) ∧ u'.2 = w.2 ∧
    (opt nv Y ro (fun j => anyB Fo fg (dy + j)) N 0 (fun _ => 0) < 1000000 → u'.1 32 36 0 = nI (opt nv Y ro (fun j => anyB Fo fg (dy + j)) N 0 (fun _ => 0)) ∧ ∀ i, i < N → u'.1 32 35 i = nI (pl nv Y ro (fun j => anyB Fo fg (dy + j)) N 0 (fun _ => 0) i)) ∧
    (opt nv Y ro (fun j => anyB Fo fg (dy + j)) N 0 (fun _ => 0) = 1000000 → u'.1 32 36 0 = nI 1000000) := by
  obtain ⟨T, a1, a2⟩ := low_ok h hN
  obtain ⟨U, hU⟩ : ∃ U, U = sI (sI (sA w 32 33 T) 32 36 0 (nI 1000000)) 32 34 0 (-1) := ⟨_, rfl⟩
  have hTB : TB nv Y Fo dy N ro fg U := by
    refine ⟨h.k (fun k hk => by rw [hU, ky_sI (by omega), ky_sI (by omega), ky_sA (by omega)]), fun e s he hs => ?_⟩
    rw [hU, ky_sI (by omega), ky_sI (by omega), kx_sA]
    exact a2 e s he hs
  obtain ⟨r, hr⟩ : ∃ r, N = r + 1 := ⟨N - 1, by omega⟩
  obtain ⟨q, u', b1, b2, b3, b4, b5⟩ := dfs hN r 0 (fun _ => 0) U (by omega) hTB (fun j hj => by omega) 1000000 (by rw [hU, ky_sI (by omega), kx_sI, upd_s]) (by omega) (by rw [hU, kx_sI, upd_s])
  rw [← hr] at b5 b1
  have hq : q ≤ 10 * 9 ^ 10 := Nat.le_trans b1 (Nat.mul_le_mul_left _ (Nat.pow_le_pow_right (by omega) hN))
  rw [spt, Nat.zero_add] at b5
  have hol := opt_le (nv := nv) (Y := Y) (ro := ro) (fog := fun j => anyB Fo fg (dy + j)) N 0 (fun _ => 0)
  refine ⟨u', ?_, fun d hd => ?_, fun k hk => ?_, ?_, b5.1, fun z => (b5.2 (by omega)).1⟩
  · unfold f8_findFeet
    rw [a1, bV]
    simp only [bE]
    rw [show sI (sI (sA w 32 33 T) 32 36 0 1000000) 32 34 0 (-1) = U from hU.symm]
    obtain ⟨m, hm⟩ : ∃ m, 1000000000000 = (m + 1) + q := ⟨1000000000000 - q - 1, by omega⟩
    rw [hm, show (0 : Int32) = nI 0 from rfl, b2, f8_findFeet_21, if_pos (by decide)]
  · rw [b3.1 d hd, hU, ob_sI hd, ob_sI hd, ob_sA hd]
  · rw [b3.2.1 k (by omega), hU, ky_sI (by omega), ky_sI (by omega), ky_sA (by omega)]
  · rw [b3.2.2, hU]; rfl
end Dfs
theorem q_feet {n : Nat} {w : Mem} (hn : n < 100) (h : Rel n w) (a b : Int32) : Same n w (f7_feet a b) (f8_feet a b) := by
  obtain ⟨⟨g, nv, K, Y, I, F, Fo, ro, pe, fe, fs, fg, h1, h2, h3, h4, h5, h6, h7⟩, hT, hF, hN⟩ := id h
  by_cases ha : nI 1 ≤ a ∧ a ≤ nI 10
  · obtain ⟨N, hN1, hN2, rfl⟩ : ∃ t : Nat, 1 ≤ t ∧ t ≤ 10 ∧ a = nI t := by
      rcases ix3 a 11 (by omega) with z | z | ⟨t, ht, rfl⟩
      · exact absurd (Int32.lt_of_le_of_lt ha.1 z) (by decide)
      · exact absurd (Int32.le_trans z ha.2) (by decide)
      · exact ⟨t, (nI_leI (by omega) (by omega)).mp ha.1, by omega, rfl⟩
    have h30 := h3
    obtain ⟨⟨q1, q2, q3, q4, q5, q6, q7⟩, r0, ⟨r1, s1⟩, ⟨r2, s2⟩, ⟨r3, s3⟩, ⟨r4, s4⟩, ⟨r5, s5⟩, ⟨r6, s6⟩, v1, v2, v3, -⟩ := h3
    have c1 : ¬ nI N < 1 := fun z => absurd ((nI_ltI (b := 1) (by omega) (by omega)).mp z) (by omega)
    have c2 : nI N ≤ 10 := nI_le (b := 10) hN2 (by omega)
    rcases Nat.eq_zero_or_pos K with rfl | hK
    · refine ⟨-1000000003, w, w, ?_, ?_, h.next (by omega)⟩
      · unfold f7_feet
        rw [if_pos rfl] at r0
        rw [if_neg c1, if_pos c2, rk_g h1 h2.1, bK, if_pos r0]
      · unfold f8_feet
        rw [in1_ok (m := 10) (b := 10) _ rfl, if_pos ha, bO, if_neg (by decide), if_pos (show w.1 32 0 0 = 0 from s1)]
    · rw [if_neg (by omega)] at r0
      obtain ⟨dy, hdy, e1, e2⟩ : ∃ dy : Nat, dy < 100000 ∧ w.1 0 6 0 = nI dy ∧ w.1 32 11 0 = nI dy := by
        obtain ⟨dy, wt, fa, em, sh0, st, k1, k2, k3, k4, k5, k6, ⟨b6, c6⟩, -⟩ := h4
        exact ⟨dy, by omega, b6, c6⟩
      obtain ⟨w', a1, a2, a3, a4⟩ := make_ok h30 h1 (N := N) hN2 hdy
      have hPF : PF nv Y Fo dy ro fg w' := by
        refine ⟨⟨q1, q3, q6, hdy⟩, ?_, ?_, ?_, ?_, fun v hv => ?_, fun k hk => ?_⟩
        · rw [a1 32 (by omega)]; exact s4
        · rw [a1 32 (by omega)]; exact s2
        · rw [a1 32 (by omega)]; exact e2
        · rw [a1 32 (by omega)]; exact s6
        · rw [a1 32 (by omega)]; exact ⟨(v1 v hv).1.1, (v1 v hv).2.1.2⟩
        · rw [a1 32 (by omega)]; exact v3 k hk
      obtain ⟨u', b1, b2, b3, b4, b5, b6⟩ := ff_ok (N := N) hPF hN2 hN1
      have hrel : Rel (n + 1) u' := by
        have y1 : ∀ d, d ≠ 31 → d ≠ 32 → u'.1 d = w.1 d := fun d k1 k2 => by rw [b2 d k2, a1 d k1]
        have y2 : ∀ k, k < 33 ∨ 36 < k → u'.1 32 k = w.1 32 k := fun k hk => by rw [b3 k hk, a1 32 (by omega)]
        have y3 : u'.2 = w.2 := by rw [b4, a2]
        refine ⟨⟨g, nv, K, Y, I, F, Fo, ro, pe, fe, fs, fg, RCo.same (w := w) (n := n) ⟨h1, h2, h30, h4, h5, h6, h7⟩ ⟨fun d k1 k2 => y1 d (by omega) (by omega), ⟨y1 g (by omega) (by omega), by rw [y3]⟩, ⟨by rw [y3], by rw [y3]⟩, ⟨by rw [y1 26 (by omega) (by omega)], by rw [y1 26 (by omega) (by omega)], by rw [y1 26 (by omega) (by omega)]⟩, ⟨by rw [y1 28 (by omega) (by omega)], by rw [y1 28 (by omega) (by omega)]⟩, fun k hk => y2 k (by omega)⟩ (by omega)⟩, hT.same (by rw [y1 26 (by omega) (by omega)]) (by rw [y1 26 (by omega) (by omega)]) (y2 13 (by omega)) (y2 14 (by omega)) (by omega), hF.same (by rw [y1 26 (by omega) (by omega)]) (y2 15 (by omega)), hN.same (fun k hk => by rw [y1 29 (by omega) (by omega)]) (fun k k1 k2 => y2 k (by omega))⟩
      have hol := opt_le (nv := nv) (Y := Y) (ro := ro) (fog := fun j => anyB Fo fg (dy + j)) N 0 (fun _ => 0)
      have k0 : w'.1 32 0 0 = nI K := by rw [a1 32 (by omega)]; exact s1
      have k0' : ¬ w'.1 32 0 0 = 0 := by rw [k0]; exact fun z => absurd ((nI_eq (b := 0) (by omega) (by omega)).mp z) (by omega)
      have ei := in1_ok (nI N) (m := 10) (b := 10) rfl w'
      rw [if_pos ha] at ei
      have f7e : ∀ r, f4_make g (nI dy) (nI N) w = some (r, w') → f7_feet (nI N) b w = (if r = (-1) then (some (r, w')) else (if b = (-1) then (some (r, w')) else (if b < 0 then (some ((-1), w')) else (if nI N ≤ b then (some ((-1), w')) else (if b < 10 then (if b < 0 ∨ 10 ≤ Int32.toNatClampNeg b then none else some (w'.1 31 0 (Int32.toNatClampNeg b), w')) else (some ((-1), w'))))))) := by
        intro r e
        unfold f7_feet
        rw [if_neg c1, if_pos c2, rk_g h1 h2.1, bK, if_neg (show ¬ w.1 g 0 0 = 0 by rw [r0]; decide), bK, e1, e, bO]
      have f8e : f8_feet (nI N) b w' = (if (u'.1 32 36 0) = 1000000 then (some ((-1), u')) else (if b = (-1) then (some (u'.1 32 36 0, u')) else (bndO (f8_in (Int32.toInt64 b) 0 (Int32.toInt64 (nI N - 1)) u') fun r9 w8 => if r9 = 0 then (some ((-1), w8)) else (if b < 0 ∨ 10 ≤ Int32.toNatClampNeg b then none else some (w8.1 32 35 (Int32.toNatClampNeg b), w8))))) := by
        unfold f8_feet
        rw [ei, bO, if_neg (by decide), if_neg k0', b1, bV]
      have eN : Int32.toInt64 (nI N - 1) = lN (N - 1) := by rw [show nI N - 1 = nI (N - 1) from pk_sub (b := 1) (by omega)]; exact nI_l (by omega)
      rw [eN] at f8e
      by_cases ho : opt nv Y ro (fun j => anyB Fo fg (dy + j)) N 0 (fun _ => 0) < 1000000
      · obtain ⟨x1, x2⟩ := a3 ho
        obtain ⟨z1, z2⟩ := b5 ho
        have t1 : ¬ nI (opt nv Y ro (fun j => anyB Fo fg (dy + j)) N 0 (fun _ => 0)) = -1 := fun z => (eqm_F (a := 1) (by omega) (by omega) (by omega)).mp z
        have t2 : ¬ nI (opt nv Y ro (fun j => anyB Fo fg (dy + j)) N 0 (fun _ => 0)) = 1000000 := fun z => absurd ((nI_eq (b := 1000000) (by omega) (by omega)).mp z) (by omega)
        have f7x := f7e _ x1
        rw [if_neg t1] at f7x
        rw [z1, if_neg t2] at f8e
        by_cases hb : b = -1
        · rw [if_pos hb] at f7x f8e
          exact ⟨_, w', u', f7x, f8e, hrel⟩
        · rw [if_neg hb] at f7x f8e
          rcases ix3 b N (by omega) with z | z | ⟨j, hj, rfl⟩
          · rw [if_pos (show b < 0 from z)] at f7x
            rw [in_neg u' z, bO, if_pos rfl] at f8e
            exact ⟨_, w', u', f7x, f8e, hrel⟩
          · rw [if_neg (big_nlt (by omega) z), if_pos z] at f7x
            rw [in_big (b := N - 1) u' rfl (by omega) (by rw [show N - 1 + 1 = N by omega]; exact z), bO, if_pos rfl] at f8e
            exact ⟨_, w', u', f7x, f8e, hrel⟩
          · rw [if_neg (nI_pos (by omega)), if_neg (nI_ge hj (by omega)), if_pos (show nI j < 10 from nI_lt (b := 10) (by omega) (by omega)), if_neg (nI_in (show j < 10 by omega) (by omega)), cl_nI (by omega), x2 j hj] at f7x
            rw [in0_T u' (b := N - 1) rfl (by omega) (by omega), bO, if_neg (by decide), if_neg (nI_in (show j < 10 by omega) (by omega)), cl_nI (by omega), z2 j hj] at f8e
            exact ⟨_, w', u', f7x, f8e, hrel⟩
      · have hoe : opt nv Y ro (fun j => anyB Fo fg (dy + j)) N 0 (fun _ => 0) = 1000000 := by omega
        have f7x := f7e _ (a4 hoe)
        rw [if_pos (show (-nI 1 : Int32) = -1 from rfl)] at f7x
        rw [b6 hoe, if_pos (show nI 1000000 = (1000000 : Int32) from rfl)] at f8e
        exact ⟨_, w', u', f7x, f8e, hrel⟩
  · refine ⟨-1000000002, w, w, ?_, ?_, h.next (by omega)⟩
    · unfold f7_feet
      by_cases hb : a < 1
      · rw [if_pos hb]
      · rw [if_neg hb, if_neg (show ¬ a ≤ 10 from fun z => ha ⟨Int32.not_lt.mp hb, z⟩)]
    · unfold f8_feet
      rw [in1_ok (m := 10) (b := 10) _ rfl, if_neg ha]
      rfl
