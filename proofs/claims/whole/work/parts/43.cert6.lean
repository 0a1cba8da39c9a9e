section Rock
variable {nv : Nat} {pe : Nat → Nat} {w : Mem}
theorem s66_out (h : PW nv pe w) : f8_in (nI nv).toInt64 0 (w.1 32 3 0 - 1).toInt64 w = some (0, w) := by
  obtain ⟨h1, h2, h3⟩ := h
  rw [h2]
  rcases Nat.eq_zero_or_pos nv with rfl | h0
  · rw [in_ok, if_neg (by decide)]
  · refine in_big (b := nv - 1) w (by rw [nI_lit, pk_sub (by omega), nI_l (by omega)]) (by omega) ?_
    rw [show nv - 1 + 1 = nv by omega]
    exact Int32.le_refl _
theorem p66 (h : PW nv pe w) {S : Nat} (hS : S < 256) : ∀ k, k ≤ nv → ∀ A T, (∀ u, u < nv - k → tb S u = true → A u < 9 ∧ T u = nI (A u)) → (∀ u, nv - k ≤ u → u < nv → tb S u = true → T u = -1) → ∃ c T', c ≤ 20 ^ k ∧ R66 S nv w (sr pe S nv k A) (nv - k) (nx S nv k (nv - k)) T T' c := by
  intro k
  induction k with
  | zero =>
    intro hk A T hA hU
    refine ⟨0, T, by omega, fun B hB => ?_, fun hR => (by cases hR)⟩
    cases hB
    refine ⟨fun u hu hu2 => (hA u hu hu2).2, fun n => ?_⟩
    have i := s66_out (h.sA T)
    have e3 := (h.sA T).2.1
    rw [show nx S nv 0 (nv - 0) = nv from rfl, show n + 0 + 1 = n + 1 from rfl, f8_findCertain_66, i, bO, if_pos rfl]
    unfold f8_findCertain_143
    rw [e3, if_neg (show ¬ nI nv < nI nv from Int32.lt_irrefl)]
    rfl
  | succ k ih =>
    intro hk A T hA hU
    have i1 := ih (by omega)
    obtain ⟨v, hv⟩ : ∃ v, v = nv - (k + 1) := ⟨_, rfl⟩
    have hv1 : nv - k = v + 1 := by omega
    have hv2 : nv - (v + 1) = k := by omega
    rw [hv1] at i1
    rw [← hv] at hA hU
    have hp9 := (h.2.2 v (by omega)).2.1
    rw [sr, ← hv, nx]
    cases hb : tb S v with
    | true =>
      rw [if_pos rfl, if_pos rfl]
      obtain ⟨c, T', c1, c2⟩ := q66 h (E := 20 ^ k) (f := sr pe S nv k) (A := A) hS (show v < nv by omega) hb (Nat.pow_pos (by omega)) (by rw [hv2]; exact i1) (pe v) 0 T (by omega) (by rw [hU v (by omega) (by omega) hb]; rfl) hA (fun u hu => hU u (by omega))
      refine ⟨c, T', ?_, c2⟩
      have e1 : 1 ≤ 20 ^ k := Nat.pow_pos (by omega)
      have e2 : pe v * (1 + 20 ^ k) ≤ 9 * (1 + 20 ^ k) := Nat.mul_le_mul_right _ hp9
      rw [Nat.pow_succ]
      omega
    | false =>
      rw [if_neg (by decide), if_neg (by decide)]
      obtain ⟨c, T', c1, c2, c3⟩ := i1 A T (fun u hu hu2 => by
        by_cases hz : u = v
        · subst hz; rw [hb] at hu2; cases hu2
        · exact hA u (by omega) hu2) (fun u hu hu2 hu3 => hU u (by omega) hu2 hu3)
      refine ⟨c, T', ?_, c2, fun hR => ⟨fun u hu hu2 => ?_, fun n => ?_⟩⟩
      · exact Nat.le_trans c1 (Nat.pow_le_pow_right (by omega) (by omega))
      · have y := (c3 hR).1 u hu hu2
        have hz : u ≠ v := fun z => by subst z; rw [hb] at hu2; cases hu2
        exact ⟨fun hz2 => y.1 (by omega), fun hz2 => y.2 (by omega)⟩
      · have y := (c3 hR).2 n
        rw [bf, hb, if_neg (by decide)] at y
        exact y
end Rock
