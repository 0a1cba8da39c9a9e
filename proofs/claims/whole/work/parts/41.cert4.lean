section Rock
variable {nv : Nat} {pe : Nat → Nat} {w : Mem}
/-- what the loop needs of the rest -/
def PW (nv : Nat) (pe : Nat → Nat) (w : Mem) : Prop := nv ≤ 8 ∧ w.1 32 3 0 = nI nv ∧ ∀ u, u < nv → 1 ≤ pe u ∧ pe u ≤ 9 ∧ w.1 32 5 u = nI (pe u)
theorem PW.sA (h : PW nv pe w) (T : Nat → Int32) : PW nv pe (sA w 32 32 T) := by
  obtain ⟨h1, h2, h3⟩ := h
  refine ⟨h1, by rw [ky_sA (by omega)]; exact h2, fun u hu => ?_⟩
  rw [ky_sA (by omega)]; exact h3 u hu
theorem s66_in (h : PW nv pe w) {v : Nat} (hv : v < nv) : f8_in (nI v).toInt64 0 (w.1 32 3 0 - 1).toInt64 w = some (nI 1, w) := by
  obtain ⟨h1, h2, h3⟩ := h
  rw [h2]
  exact in0_T w (b := nv - 1) (by rw [nI_lit, pk_sub (by omega), nI_l (by omega)]) (by omega) (by omega)
/-- the last offset of a village was tried -/
theorem s66_last (h : PW nv pe w) {S v : Nat} (hS : S < 256) (hv : v < nv) {T : Nat → Int32} (hT : T v = nI (pe v) + (-1)) (n : Nat) : f8_findCertain_66 (nI S) (n + 1) (nI v) (sA w 32 32 T) = f8_findCertain_66 (nI S) n (nI (bf S v) + (-1)) (sA w 32 32 (upd T v (-1))) := by
  have i1 := s66_in (h.sA T) hv
  obtain ⟨h1, h2, h3⟩ := h
  obtain ⟨x1, x2, x3⟩ := h3 v hv
  have e1 : nI (pe v) + (-1) + 1 = nI (pe v) := by rw [Int32.add_assoc, show (-1 : Int32) + 1 = 0 from rfl, Int32.add_zero]
  have b := bf_ok (w := sA w 32 32 (upd T v (-1))) (a := nI v) hS v 100000 (by omega) (by omega)
  have e2 : nI v - 1 = nI v + (-1) := by rw [Int32.sub_eq_add_neg]
  have b2 : f8_before (nI S) (nI v) (sA w 32 32 (upd T v (-1))) = some (nI (bf S v) + (-1), sA w 32 32 (upd T v (-1))) := by
    unfold f8_before
    rw [bE, e2]; exact b
  rw [f8_findCertain_66, i1, bO, if_neg (by decide), kx_sA, cl_nI (by omega), hT, e1, sI_A]
  simp only [bE]
  rw [kx_sA, upd_s, ky_sA (by omega), x3, sI_A, upd_upd, b2, bO, if_pos rfl, if_neg (show ¬ (nI v < 0 ∨ 8 ≤ v) from fun z => z.elim (nI_pos (by omega)) (by omega))]
  simp only [if_neg (show ¬ (nI v < 0 ∨ 8 ≤ v) from fun z => z.elim (nI_pos (by omega)) (by omega))]
theorem s66_try (h : PW nv pe w) {S v o : Nat} {A : Nat → Nat} (hS : S < 256) (hv : v < nv) (ho : o < pe v) {T : Nat → Int32} (hT : T v = nI o + (-1)) (hA : ∀ u, u < v → tb S u = true → A u < 9 ∧ T u = nI (A u)) (n : Nat) : f8_findCertain_66 (nI S) (n + 1) (nI v) (sA w 32 32 T) = if okf pe S v o A v 0 then f8_findCertain_66 (nI S) n (nI (nx S nv (nv - (v + 1)) (v + 1))) (sA w 32 32 (upd T v (nI o))) else f8_findCertain_66 (nI S) n (nI v) (sA w 32 32 (upd T v (nI o))) := by
  have i1 := s66_in (h.sA T) hv
  have hp := (h.sA (upd T v (nI o))).2.2
  have e3 := (h.sA (upd T v (nI o))).2.1
  obtain ⟨h1, h2, h3⟩ := h
  obtain ⟨x1, x2, x3⟩ := h3 v hv
  have e1 : nI o + (-1) + 1 = nI o := by rw [Int32.add_assoc, show (-1 : Int32) + 1 = 0 from rfl, Int32.add_zero]
  have f := fr_ok (w := sA w 32 32 (upd T v (nI o))) (A := A) (o := o) hS hv h1 hp (by omega) (by rw [kx_sA, upd_s]) (fun u hu hb => by rw [kx_sA, upd_n (by omega)]; exact hA u hu hb) v 0 100000 (by omega) (by omega)
  have f2 : f8_isFree (nI v) (nI S) (sA w 32 32 (upd T v (nI o))) = some (if okf pe S v o A v 0 then nI 1 else nI 0, sA w 32 32 (upd T v (nI o))) := f
  have g := nx_ok (w := sA w 32 32 (upd T v (nI o))) (a := nI v) hS h1 e3 (nv - (v + 1)) (v + 1) 100000 (by omega) (by omega)
  have g2 : f8_next (nI S) (nI v) (sA w 32 32 (upd T v (nI o))) = some (nI (nx S nv (nv - (v + 1)) (v + 1)), sA w 32 32 (upd T v (nI o))) := by
    unfold f8_next
    rw [bE, show nI v + 1 = nI (v + 1) from nI_add v 1]; exact g
  rw [f8_findCertain_66, i1, bO, if_neg (by decide), kx_sA, cl_nI (by omega), hT, e1, sI_A]
  simp only [bE]
  rw [kx_sA, upd_s, ky_sA (by omega), x3, f2, bO, if_neg (show ¬ nI o = nI (pe v) from fun z => absurd ((nI_eq (by omega) (by omega)).mp z) (by omega)), if_neg (show ¬ (nI v < 0 ∨ 8 ≤ v) from fun z => z.elim (nI_pos (by omega)) (by omega))]
  simp only [if_neg (show ¬ (nI v < 0 ∨ 8 ≤ v) from fun z => z.elim (nI_pos (by omega)) (by omega))]
  cases hk : okf pe S v o A v 0 with
  | true => rw [if_pos rfl, if_pos rfl, if_neg (by decide), g2, bO]
  | false => rw [if_neg (show ¬ false = true by decide), if_neg (show ¬ false = true by decide), if_pos (show nI 0 = (0 : Int32) from rfl)]
end Rock
