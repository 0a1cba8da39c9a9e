section Rock
variable {nv : Nat} {pe : Nat → Nat} {w : Mem}
/-- what the loop needs of the rest -/
def PW (nv : Nat) (pe : Nat → Nat) (w : Mem) : Prop := nv ≤ 8 ∧ w.1 32 3 0 = nI nv ∧ ∀ u, u < nv → 1 ≤ pe u ∧ pe u ≤ 9 ∧ w.1 32 5 u = nI (pe u)
theorem PW.sA (h : PW nv pe w) (T : Nat → Int32) : PW nv pe (sA w 32 32 T) := by
  obtain ⟨h1, h2, h3⟩ := h
  refine ⟨h1, by rw [ky_sA (by omega)]; exact h2, fun u hu => ?_⟩
  rw [ky_sA (by omega)]; exact h3 u hu
theorem s66_in (h : PW nv pe w) {v : Nat} (hv : v < nv) : f8_in (nI v).toInt64 0 (w.1 32 3 0 - 1).toInt64 w = some (nI 1, w) := by
  obtain ⟨h1, h2, h3⟩ := h
  rw [h2]
  exact in0_T w (b := nv - 1) (by rw [nI_lit, pk_sub (by omega), nI_l (by omega)]) (by omega) (by omega)
/-- the last offset of a village was tried -/
theorem s66_last (h : PW nv pe w) {S v : Nat} (hS : S < 256) (hv : v < nv) {T : Nat → Int32} (hT : T v = nI (pe v) + (-1)) (n : Nat) : f8_findCertain_66 (nI S) (n + 1) (nI v) (sA w 32 32 T) = f8_findCertain_66 (nI S) n (nI (bf S v) + (-1)) (sA w 32 32 (upd T v (-1))) := by
  have i1 := s66_in (h.sA T) hv
  obtain ⟨h1, h2, h3⟩ := h
  obtain ⟨x1, x2, x3⟩ := h3 v hv
  have e1 : nI (pe v) + (-1) + 1 = nI (pe v) := by rw [Int32.add_assoc, show (-1 : Int32) + 1 = 0 from rfl, Int32.add_zero]
  have b := bf_ok (w := sA w 32 32 (upd T v (-1))) (a := nI v) hS v 100000 (by omega) (by omega)
  have e2 : nI v - 1 = nI v + (-1) := by rw [Int32.sub_eq_add_neg]
  have b2 : f8_before (nI S) (nI v) (sA w 32 32 (upd T v (-1))) = some (nI (bf S v) + (-1), sA w 32 32 (upd T v (-1))) := by
    unfold f8_before
    rw [bE, e2]; exact b
  rw [f8_findCertain_66, i1, bO, if_neg (by decide), kx_sA, cl_nI (by omega), hT, e1, sI_A]
  simp only [bE]
  rw [kx_sA, upd_s, ky_sA (by omega), x3, sI_A, upd_upd, b2, bO, if_pos rfl, if_neg (show ¬ (nI v < 0 ∨ 8 ≤ v) from fun z => z.elim (nI_pos (by omega)) (by omega))]
  simp only [if_neg (show ¬ (nI v < 0 ∨ 8 ≤ v) from fun z => z.elim (nI_pos (by omega)) (by omega))]
end Rock
