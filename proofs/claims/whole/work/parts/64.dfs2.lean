/-! the least feet: the search finds the first of the least -/
section Dfs
variable {nv Y Fo dy N : Nat} {ro fg : Nat → Nat}
/-- what the best is behind some of a level -/
def BS (N B0 val : Nat) (E0 : Nat → Int32) (plan : Nat → Nat) (u : Mem) : Prop := (val < B0 → u.1 32 36 0 = nI val ∧ ∀ i, i < N → u.1 32 35 i = nI (plan i)) ∧ (¬ val < B0 → u.1 32 36 0 = nI B0 ∧ ∀ i, i < N → u.1 32 35 i = E0 i)
theorem BS.n {N B0 val : Nat} {E0 : Nat → Int32} {plan : Nat → Nat} {u : Mem} (h : BS N B0 val E0 plan u) : u.1 32 36 0 = nI (min val B0) := by
  by_cases hz : val < B0
  · rw [(h.1 hz).1, Nat.min_eq_left (by omega)]
  · rw [(h.2 hz).1, Nat.min_eq_right (by omega)]
theorem BS.e {N B0 val : Nat} {E0 : Nat → Int32} {plan : Nat → Nat} {u u' : Mem} (h : BS N B0 val E0 plan u) (e5 : ∀ i, i < N → u'.1 32 35 i = u.1 32 35 i) (e6 : u'.1 32 36 0 = u.1 32 36 0) : BS N B0 val E0 plan u' := ⟨fun z => ⟨e6.trans (h.1 z).1, fun i hi => (e5 i hi).trans ((h.1 z).2 i hi)⟩, fun z => ⟨e6.trans (h.2 z).1, fun i hi => (e5 i hi).trans ((h.2 z).2 i hi)⟩⟩
theorem lvl (hN : N ≤ 10) {r d B0 Q : Nat} {c : Nat → Nat} {E0 : Nat → Int32} (hd : d + (r + 1) = N) (hB0 : B0 ≤ 1000000) (hcn : ∀ j, j < d → c j < nv) {P : Nat → Bool} {f : Nat → Nat} (hP : P = fr nv Y ro (fun j => anyB Fo fg (dy + j)) c d) (hf : f = fun x => 2 * ro x + opt nv Y ro (fun j => anyB Fo fg (dy + j)) r (d + 1) (uN c d x))
    (ih : r ≠ 0 → ∀ c' u, TB nv Y Fo dy N ro fg u → (∀ j, j < d + 1 → c' j < nv ∧ u.1 32 34 j = nI (c' j)) → ∀ B, u.1 32 36 0 = nI B → B ≤ 1000000 → u.1 32 34 (d + 1) = -1 → ∃ q u', q ≤ Q ∧ (∀ n, f8_findFeet_21 (nI N) (n + q) (nI (d + 1)) u = f8_findFeet_21 (nI N) n (nI (d + 1) + (-1)) u') ∧ EFt u u' ∧ (∀ j, j < d + 1 → u'.1 32 34 j = u.1 32 34 j) ∧ BS N B (spt ro c' (d + 1) + opt nv Y ro (fun j => anyB Fo fg (dy + j)) r (d + 1) c') (u.1 32 35) (pl nv Y ro (fun j => anyB Fo fg (dy + j)) r (d + 1) c') u') :
    ∀ i v u, v + i = nv → TB nv Y Fo dy N ro fg u → (∀ j, j < d → u.1 32 34 j = nI (c j)) → u.1 32 34 d = nI v + (-1) → BS N B0 (spt ro c d + mnv P f v) E0 (pl nv Y ro (fun j => anyB Fo fg (dy + j)) r (d + 1) (uN c d (am P f v))) u → ∃ q u', q ≤ i * (1 + Q) + 1 ∧ (∀ n, f8_findFeet_21 (nI N) (n + q) (nI d) u = f8_findFeet_21 (nI N) n (nI d + (-1)) u') ∧ EFt u u' ∧ (∀ j, j < d → u'.1 32 34 j = u.1 32 34 j) ∧ BS N B0 (spt ro c d + mnv P f nv) E0 (pl nv Y ro (fun j => anyB Fo fg (dy + j)) r (d + 1) (uN c d (am P f nv))) u' := by
  intro i
  induction i with
  | zero =>
    intro v u hv h hc e hb
    obtain rfl : v = nv := by omega
    refine ⟨1, sI u 32 34 d (nI v), by omega, fun n => s21_end h hN (by omega) e n, EFt.s (by omega) (by omega), fun j hj => by rw [kx_sI, upd_n (by omega)], hb.e (fun i hi => by rw [ky_sI (by omega)]) (by rw [ky_sI (by omega)])⟩
  | succ i ihi =>
    intro v u hv h hc e hb
    have hnv := h.1.1.1
    have hcc : ∀ j, j < d → c j < nv ∧ u.1 32 34 j = nI (c j) := fun j hj => ⟨hcn j hj, hc j hj⟩
    have st := s21_v h hN (r := r) hd (show v < nv by omega) e hb.n (by omega) hcc
    have hfv : f v = 2 * ro v + opt nv Y ro (fun j => anyB Fo fg (dy + j)) r (d + 1) (uN c d v) := by rw [hf]
    have hsp : spt ro (uN c d v) (d + 1) = spt ro c d + 2 * ro v := by
      rw [spt, uN_s, spt_congr d (fun j hj => uN_n (by omega))]
    have hlo : lwf nv Y ro (fun j => anyB Fo fg (dy + j)) r (d + 1) (lat (uN c d v) (d + 1)) ≤ opt nv Y ro (fun j => anyB Fo fg (dy + j)) r (d + 1) (uN c d v) := lwf_opt hnv r (d + 1) (uN c d v) (fun j hj => by
      by_cases hz : j = d
      · subst hz; rw [uN_s]; omega
      · rw [uN_n hz]; have := hcn j (by omega); omega)
    have hml := mnv_le P f v
    have k4 : ∀ j, j < d → (sI u 32 34 d (nI v)).1 32 34 j = nI (c j) := fun j hj => by rw [kx_sI, upd_n (by omega)]; exact hc j hj
    have k4d : (sI u 32 34 d (nI v)).1 32 34 d = nI (v + 1) + (-1) := by rw [kx_sI, upd_s, pk_m1]
    have hb4 := hb.e (u' := sI u 32 34 d (nI v)) (fun i hi => by rw [ky_sI (by omega)]) (by rw [ky_sI (by omega)])
    have h4 := h.e (EFt.s (u := u) (k := 34) (i := d) (x := nI v) (by omega) (by omega))
    rw [hsp] at st
    by_cases hcond : fr nv Y ro (fun j => anyB Fo fg (dy + j)) c d v = true ∧ spt ro c d + 2 * ro v + lwf nv Y ro (fun j => anyB Fo fg (dy + j)) r (d + 1) (lat (uN c d v) (d + 1)) < min (spt ro c d + mnv P f v) B0
    · have hp : P v = true := by rw [hP]; exact hcond.1
      simp only [if_pos hcond] at st
      have hcu : ∀ j, j < d + 1 → uN c d v j < nv := fun j hj => by
        by_cases hz : j = d
        · subst hz; rw [uN_s]; omega
        · rw [uN_n hz]; exact hcn j (by omega)
      by_cases hr : r = 0
      · -- the last day
        simp only [if_pos hr] at st
        have hdN : d + 1 = N := by omega
        have ho : opt nv Y ro (fun j => anyB Fo fg (dy + j)) r (d + 1) (uN c d v) = 0 := by rw [hr]; rfl
        have hl0 : lwf nv Y ro (fun j => anyB Fo fg (dy + j)) r (d + 1) (lat (uN c d v) (d + 1)) = 0 := by rw [hr]; rfl
        obtain ⟨U, hU⟩ : ∃ U, U = sI (sI u 32 34 d (nI v)) 32 36 0 (nI (spt ro (uN c d v) N)) := ⟨_, rfl⟩
        have eU : EFt u U := by rw [hU]; exact (EFt.s (by omega) (by omega)).tr (EFt.s (by omega) (by omega))
        have u34 : ∀ j, j < d + 1 → U.1 32 34 j = nI (uN c d v j) := fun j hj => by
          rw [hU, ky_sI (by omega)]
          by_cases hz : j = d
          · subst hz; rw [uN_s, kx_sI, upd_s]
          · rw [uN_n hz]; exact k4 j (by omega)
        have hlt : f v < mnv P f v := by omega
        obtain ⟨m1, m2⟩ := mnv_s hp hlt
        obtain ⟨u1, a1, a2, a3, a4, a5, -⟩ := cp135 (N := N) (x := nI d) hN N 0 100000 U (by omega) (by omega)
        rw [← hU] at st
        have h6 := (h.e eU).e a2
        have k6 : ∀ j, j < d → u1.1 32 34 j = nI (c j) := fun j hj => by rw [a3, u34 j (by omega), uN_n (by omega)]
        have k6d : u1.1 32 34 d = nI (v + 1) + (-1) := by rw [a3, u34 d (by omega), uN_s, pk_m1]
        have u36 : U.1 32 36 0 = nI (spt ro c d + f v) := by rw [hU, kx_sI, upd_s, ← hdN, hsp, show spt ro c d + 2 * ro v = spt ro c d + f v by omega]
        have hb6 : BS N B0 (spt ro c d + mnv P f (v + 1)) E0 (pl nv Y ro (fun j => anyB Fo fg (dy + j)) r (d + 1) (uN c d (am P f (v + 1)))) u1 := by
          rw [m1, m2]
          refine ⟨fun q => ⟨by rw [a4]; exact u36, fun i hi => ?_⟩, fun q => by omega⟩
          rw [a5 i (by omega) hi, u34 i (by omega), hr]; rfl
        obtain ⟨q2, u2, c1, c2, c3, c4, c5⟩ := ihi (v + 1) u1 (by omega) h6 k6 k6d hb6
        refine ⟨q2 + 1, u2, by rw [Nat.succ_mul]; omega, fun n => ?_, (eU.tr a2).tr c3, fun j hj => ?_, c5⟩
        · rw [show n + (q2 + 1) = (n + q2) + 1 by omega, st]
          exact (a1 _).trans (c2 n)
        · rw [c4 j hj, k6 j hj, hc j hj]
      · simp only [if_neg hr] at st
        have h5 := h4.e (EFt.s (u := sI u 32 34 d (nI v)) (k := 34) (i := d + 1) (x := -1) (by omega) (by omega))
        have k5 : ∀ j, j < d + 1 → (sI (sI u 32 34 d (nI v)) 32 34 (d + 1) (-1)).1 32 34 j = nI (uN c d v j) := fun j hj => by
          rw [kx_sI, upd_n (by omega)]
          by_cases hz : j = d
          · subst hz; rw [uN_s, kx_sI, upd_s]
          · rw [uN_n hz]; exact k4 j (by omega)
        obtain ⟨q1, u1, b1, b2, b3, b4, b5⟩ := ih hr (uN c d v) (sI (sI u 32 34 d (nI v)) 32 34 (d + 1) (-1)) h5 (fun j hj => ⟨hcu j hj, k5 j hj⟩) (min (spt ro c d + mnv P f v) B0) (by rw [ky_sI (by omega)]; exact hb4.n) (by omega) (by rw [kx_sI, upd_s])
        rw [hsp, show spt ro c d + 2 * ro v + opt nv Y ro (fun j => anyB Fo fg (dy + j)) r (d + 1) (uN c d v) = spt ro c d + f v by omega] at b5
        have h6 := h5.e b3
        have k6 : ∀ j, j < d → u1.1 32 34 j = nI (c j) := fun j hj => by rw [b4 j (by omega), k5 j (by omega), uN_n (by omega)]
        have k6d : u1.1 32 34 d = nI (v + 1) + (-1) := by rw [b4 d (by omega), k5 d (by omega), uN_s, pk_m1]
        have hb6 : BS N B0 (spt ro c d + mnv P f (v + 1)) E0 (pl nv Y ro (fun j => anyB Fo fg (dy + j)) r (d + 1) (uN c d (am P f (v + 1)))) u1 := by
          by_cases hz : f v < mnv P f v
          · obtain ⟨m1, m2⟩ := mnv_s hp hz
            rw [m1, m2]
            refine ⟨fun q => b5.1 (by omega), fun q => ?_⟩
            obtain ⟨x1, x2⟩ := b5.2 (by omega)
            rw [Nat.min_eq_right (by omega)] at x1
            refine ⟨x1, fun i hi => ?_⟩
            rw [x2 i hi, ky_sI (by omega), ky_sI (by omega)]
            exact (hb.2 (by omega)).2 i hi
          · obtain ⟨m1, m2⟩ := mnv_n (P := P) (f := f) (v := v) (fun _ => hz)
            rw [m1, m2]
            obtain ⟨x1, x2⟩ := b5.2 (by omega)
            exact hb.e (fun i hi => by rw [x2 i hi, ky_sI (by omega), ky_sI (by omega)]) (by rw [x1, hb.n])
        obtain ⟨q2, u2, c1, c2, c3, c4, c5⟩ := ihi (v + 1) u1 (by omega) h6 k6 k6d hb6
        refine ⟨1 + q1 + q2, u2, by rw [Nat.succ_mul]; omega, fun n => ?_, (((EFt.s (by omega) (by omega)).tr (EFt.s (by omega) (by omega))).tr b3).tr c3, fun j hj => ?_, c5⟩
        · rw [show n + (1 + q1 + q2) = ((n + q2) + q1) + 1 by omega, st, b2, pk_m1]
          exact c2 n
        · rw [c4 j hj, k6 j hj, hc j hj]
    · simp only [if_neg hcond] at st
      have hb' : BS N B0 (spt ro c d + mnv P f (v + 1)) E0 (pl nv Y ro (fun j => anyB Fo fg (dy + j)) r (d + 1) (uN c d (am P f (v + 1)))) (sI u 32 34 d (nI v)) := by
        by_cases hz : P v = true ∧ f v < mnv P f v
        · obtain ⟨m1, m2⟩ := mnv_s hz.1 hz.2
          rw [m1, m2]
          have hf1 : fr nv Y ro (fun j => anyB Fo fg (dy + j)) c d v = true := by rw [← hP]; exact hz.1
          have hge : ¬ spt ro c d + 2 * ro v + lwf nv Y ro (fun j => anyB Fo fg (dy + j)) r (d + 1) (lat (uN c d v) (d + 1)) < min (spt ro c d + mnv P f v) B0 := fun z => hcond ⟨hf1, z⟩
          have hno : ¬ spt ro c d + mnv P f v < B0 := by omega
          exact ⟨fun q => by omega, fun _ => hb4.2 hno⟩
        · obtain ⟨m1, m2⟩ := mnv_n (P := P) (f := f) (v := v) (fun z z2 => hz ⟨z, z2⟩)
          rw [m1, m2]
          exact hb4
      obtain ⟨q2, u2, c1, c2, c3, c4, c5⟩ := ihi (v + 1) (sI u 32 34 d (nI v)) (by omega) h4 k4 k4d hb'
      refine ⟨q2 + 1, u2, by rw [Nat.succ_mul]; omega, fun n => ?_, (EFt.s (by omega) (by omega)).tr c3, fun j hj => ?_, c5⟩
      · rw [show n + (q2 + 1) = (n + q2) + 1 by omega, st]
        exact c2 n
      · rw [c4 j hj, k4 j hj, hc j hj]
end Dfs
