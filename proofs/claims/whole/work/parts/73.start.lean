/-! the start: all cells in their places, nothing told -/
def r0 (d k : Nat) : Nat × Nat := if d = 26 then (if k = 4 then (24, 0) else (25, 0)) else (27, 6)
def m0 (d k i : Nat) : Int32 := if (d < 24 ∧ k = 1) ∨ (d = 26 ∧ k = 2) ∨ (d = 32 ∧ k = 15) ∨ (d = 32 ∧ k = 11 ∧ 43 ≤ i) then -1 else 0
def w0 : Mem := (m0, fun _ _ _ => 0, r0)
def Rc (D : va_G) (cy : Nat → ClassId) (ad : Nat × Nat → Nat) (q : Nat × Nat) (z : Nat × va_E) : Prop := ad q = z.1 ∧ ∀ H, va_at D vwCl z H → va_at D vwCl (ad q, ent cy ad w0 q) H
def RL2 (D : va_G) (cy : Nat → ClassId) (ad : Nat × Nat → Nat) (ks : List (Nat × Nat)) (ws : va_W) : Prop := ks.length = ws.length ∧ ∀ (i : Nat) (q : Nat × Nat) (z : Nat × va_E), ks[i]? = some q → ws[i]? = some z → Rc D cy ad q z
section St
variable {D : va_G} {cy : Nat → ClassId} {ad : Nat × Nat → Nat}
theorem RL2.nil : RL2 D cy ad [] [] := ⟨rfl, fun i q z h => by simp at h⟩
theorem RL2.cons {q : Nat × Nat} {z : Nat × va_E} {ks : List (Nat × Nat)} {ws : va_W} (h1 : Rc D cy ad q z) (h2 : RL2 D cy ad ks ws) : RL2 D cy ad (q :: ks) (z :: ws) := by
  refine ⟨by rw [List.length_cons, List.length_cons, h2.1], fun i q' z' hq hz => ?_⟩
  cases i with
  | zero => cases hq; cases hz; exact h1
  | succ i => exact h2.2 i q' z' hq hz
theorem RL2.app {k1 k2 : List (Nat × Nat)} {w1 w2 : va_W} (h1 : RL2 D cy ad k1 w1) (h2 : RL2 D cy ad k2 w2) : RL2 D cy ad (k1 ++ k2) (w1 ++ w2) := by
  refine ⟨by rw [List.length_append, List.length_append, h1.1, h2.1], fun i q z hq hz => ?_⟩
  by_cases hi : i < k1.length
  · rw [List.getElem?_append_left hi] at hq
    rw [List.getElem?_append_left (by rw [← h1.1]; exact hi)] at hz
    exact h1.2 i q z hq hz
  · rw [List.getElem?_append_right (by omega)] at hq
    rw [List.getElem?_append_right (by rw [← h1.1]; omega), ← h1.1] at hz
    exact h2.2 _ q z hq hz
theorem RL2.at {ks : List (Nat × Nat)} {ws : va_W} (h : RL2 D cy ad ks ws) {q : Nat × Nat} (hq : q ∈ ks) : ∃ (i : Nat) (z : Nat × va_E), ks[i]? = some q ∧ ws[i]? = some z ∧ Rc D cy ad q z := by
  obtain ⟨i, hi⟩ := List.getElem?_of_mem hq
  have hl : i < ks.length := (List.getElem?_eq_some_iff.mp hi).1
  have hz : ws[i]? = some (ws[i]'(by rw [← h.1]; exact hl)) := List.getElem?_eq_getElem _
  exact ⟨i, _, hi, hz, h.2 i q _ hi hz⟩
theorem RL2.all {A : Nat → Prop} {ks : List (Nat × Nat)} {ws : va_W} {H : Heap} (h : RL2 D cy ad ks ws) (hP : va_P D vwCl ws H) (hD : va_D A ws) (hk : ∀ q ∈ lay, q ∈ ks) : AdOk A ad ∧ va_P D vwCl (wld cy ad w0) H := by
  refine ⟨⟨fun q hq q' hq' e => ?_, fun q hq => ?_⟩, fun k z hz => ?_⟩
  · obtain ⟨i, z, h1, h2, h3⟩ := h.at (hk q hq)
    obtain ⟨j, z', g1, g2, g3⟩ := h.at (hk q' hq')
    have := hD.1 i j z z' h2 g2 (by rw [← h3.1, ← g3.1, e])
    subst this
    exact Option.some.inj (h1.symm.trans g1)
  · obtain ⟨i, z, h1, h2, h3⟩ := h.at (hk q hq)
    rw [h3.1]
    exact hD.2 i z h2
  · obtain ⟨q, hq, rfl⟩ := wld_of hz
    obtain ⟨i, z, h1, h2, h3⟩ := h.at (hk q (List.mem_of_getElem? hq))
    exact h3.2 H (hP i z h2)
def kD (d : Nat) : List (Nat × Nat) := [(d, 0), (d, 1), (d, 3), (d, 4), (d, 2)]
theorem entD0 {d : Nat} (hd : d < 24) : ent cy ad w0 (d, 0) = .inr (1, [.ref (ad (d, 1)), .ref (ad (d, 2)), .ref (ad (d, 3)), .ref (ad (d, 4)), .int 0, .int 0, .int 0, .int 0, .int 0, .int 0, .int 0, .int 0, .int 0, .int 0]) := by
  rcases (show d = 0 ∨ d = 1 ∨ d = 2 ∨ d = 3 ∨ d = 4 ∨ d = 5 ∨ d = 6 ∨ d = 7 ∨ d = 8 ∨ d = 9 ∨ d = 10 ∨ d = 11 ∨ d = 12 ∨ d = 13 ∨ d = 14 ∨ d = 15 ∨ d = 16 ∨ d = 17 ∨ d = 18 ∨ d = 19 ∨ d = 20 ∨ d = 21 ∨ d = 22 ∨ d = 23 by omega) with rfl | rfl | rfl | rfl | rfl | rfl | rfl | rfl | rfl | rfl | rfl | rfl | rfl | rfl | rfl | rfl | rfl | rfl | rfl | rfl | rfl | rfl | rfl | rfl <;> rfl
theorem entD1 {d : Nat} (hd : d < 24) : ent cy ad w0 (d, 1) = .inl (cy 0, 8, .inl (fun _ => 0)) := by
  rcases (show d = 0 ∨ d = 1 ∨ d = 2 ∨ d = 3 ∨ d = 4 ∨ d = 5 ∨ d = 6 ∨ d = 7 ∨ d = 8 ∨ d = 9 ∨ d = 10 ∨ d = 11 ∨ d = 12 ∨ d = 13 ∨ d = 14 ∨ d = 15 ∨ d = 16 ∨ d = 17 ∨ d = 18 ∨ d = 19 ∨ d = 20 ∨ d = 21 ∨ d = 22 ∨ d = 23 by omega) with rfl | rfl | rfl | rfl | rfl | rfl | rfl | rfl | rfl | rfl | rfl | rfl | rfl | rfl | rfl | rfl | rfl | rfl | rfl | rfl | rfl | rfl | rfl | rfl <;> rfl
theorem entD2 {d : Nat} (hd : d < 24) : ent cy ad w0 (d, 2) = .inl (cy 0, 8, .inl (fun _ => -1)) := by
  rcases (show d = 0 ∨ d = 1 ∨ d = 2 ∨ d = 3 ∨ d = 4 ∨ d = 5 ∨ d = 6 ∨ d = 7 ∨ d = 8 ∨ d = 9 ∨ d = 10 ∨ d = 11 ∨ d = 12 ∨ d = 13 ∨ d = 14 ∨ d = 15 ∨ d = 16 ∨ d = 17 ∨ d = 18 ∨ d = 19 ∨ d = 20 ∨ d = 21 ∨ d = 22 ∨ d = 23 by omega) with rfl | rfl | rfl | rfl | rfl | rfl | rfl | rfl | rfl | rfl | rfl | rfl | rfl | rfl | rfl | rfl | rfl | rfl | rfl | rfl | rfl | rfl | rfl | rfl <;> rfl
theorem entD3 {d : Nat} (hd : d < 24) : ent cy ad w0 (d, 3) = .inl (cy 0, 17, .inl (fun _ => 0)) := by
  rcases (show d = 0 ∨ d = 1 ∨ d = 2 ∨ d = 3 ∨ d = 4 ∨ d = 5 ∨ d = 6 ∨ d = 7 ∨ d = 8 ∨ d = 9 ∨ d = 10 ∨ d = 11 ∨ d = 12 ∨ d = 13 ∨ d = 14 ∨ d = 15 ∨ d = 16 ∨ d = 17 ∨ d = 18 ∨ d = 19 ∨ d = 20 ∨ d = 21 ∨ d = 22 ∨ d = 23 by omega) with rfl | rfl | rfl | rfl | rfl | rfl | rfl | rfl | rfl | rfl | rfl | rfl | rfl | rfl | rfl | rfl | rfl | rfl | rfl | rfl | rfl | rfl | rfl | rfl <;> rfl
theorem entD4 {d : Nat} (hd : d < 24) : ent cy ad w0 (d, 4) = .inl (cy 0, 60, .inl (fun _ => 0)) := by
  rcases (show d = 0 ∨ d = 1 ∨ d = 2 ∨ d = 3 ∨ d = 4 ∨ d = 5 ∨ d = 6 ∨ d = 7 ∨ d = 8 ∨ d = 9 ∨ d = 10 ∨ d = 11 ∨ d = 12 ∨ d = 13 ∨ d = 14 ∨ d = 15 ∨ d = 16 ∨ d = 17 ∨ d = 18 ∨ d = 19 ∨ d = 20 ∨ d = 21 ∨ d = 22 ∨ d = 23 by omega) with rfl | rfl | rfl | rfl | rfl | rfl | rfl | rfl | rfl | rfl | rfl | rfl | rfl | rfl | rfl | rfl | rfl | rfl | rfl | rfl | rfl | rfl | rfl | rfl <;> rfl
theorem rlD {d q : Nat} {a : Nat → Nat} (hd : d < 24) (h0 : ad (d, 0) = q) (ha : ∀ j, 1 ≤ j → j ≤ 4 → ad (d, j) = a j) : RL2 D cy ad (kD d) (lf1 cy q a) := by
  refine RL2.cons ⟨h0, fun H h => ?_⟩ (RL2.cons ⟨ha 1 (by omega) (by omega), fun H h => ?_⟩ (RL2.cons ⟨ha 3 (by omega) (by omega), fun H h => ?_⟩ (RL2.cons ⟨ha 4 (by omega) (by omega), fun H h => ?_⟩ (RL2.cons ⟨ha 2 (by omega) (by omega), fun H h => ?_⟩ RL2.nil))))
  · rw [entD0 hd, h0, ha 1 (by omega) (by omega), ha 2 (by omega) (by omega), ha 3 (by omega) (by omega), ha 4 (by omega) (by omega)]; exact h
  · rw [entD1 hd, ha 1 (by omega) (by omega)]; exact h
  · rw [entD3 hd, ha 3 (by omega) (by omega)]; exact h
  · rw [entD4 hd, ha 4 (by omega) (by omega)]; exact h
  · rw [entD2 hd, ha 2 (by omega) (by omega)]; exact h
def kDs : Nat → List (Nat × Nat)
  | 0 => []
  | n + 1 => kDs n ++ kD (4 + n)
theorem rlDs {b : Nat → Nat} {a : Nat → Nat → Nat} : ∀ n, n ≤ 20 → (∀ i, i < n → ad (4 + i, 0) = b i ∧ ∀ j, 1 ≤ j → j ≤ 4 → ad (4 + i, j) = a i j) → RL2 D cy ad (kDs n) (dys cy b a n) := by
  intro n
  induction n with
  | zero => intro _ _; exact RL2.nil
  | succ n ih =>
    intro hn h
    exact RL2.app (ih (by omega) (fun i hi => h i (by omega))) (rlD (by omega) (h n (by omega)).1 (h n (by omega)).2)
end St
def adf (q7 : Nat) (o : Nat → Nat) (aa : Nat → Nat → Nat) (u3 : Nat × (Nat → Nat) × (Nat → Nat → Nat)) (q8 : Nat) (a8 : Nat → Nat) : Nat × Nat → Nat := fun q =>
  if q.1 = 26 then (if q.2 = 0 then q7 else aa 26 q.2) else if q.1 = 32 then (if q.2 = 0 then q8 else a8 q.2) else if q.1 = 28 then (if q.2 = 0 then o 28 else u3.1) else if 4 ≤ q.1 ∧ q.1 < 24 then (if q.2 = 0 then u3.2.1 (q.1 - 4) else u3.2.2 (q.1 - 4) q.2) else (if q.2 = 0 then o q.1 else aa q.1 q.2)
def kR (d : Nat) : List (Nat × Nat) := [(d, 0), (d, 8), (d, 9), (d, 10), (d, 11), (d, 12), (d, 13)]
def kM : List (Nat × Nat) := [(32, 0), (32, 5), (32, 6), (32, 7), (32, 9), (32, 11), (32, 12), (32, 14), (32, 20), (32, 22), (32, 23), (32, 24), (32, 25), (32, 27), (32, 29), (32, 31), (32, 32), (32, 33), (32, 34), (32, 35), (32, 36), (32, 39), (32, 40), (32, 42), (32, 43), (32, 44), (32, 45)]
def lbs : List (Nat × Nat) := ((26, 0) :: (26, 10) :: ([(26, 1)] ++ [(27, 0), (27, 6)] ++ kR 24 ++ kR 25 ++ kD 0 ++ kD 1 ++ ((28, 0) :: (28, 1) :: kDs 20) ++ [(26, 11)] ++ [(29, 0), (29, 1), (29, 2), (29, 3), (29, 4)] ++ [(30, 0), (30, 1)] ++ [(31, 0), (31, 1)] ++ kD 2 ++ kD 3)) ++ kM
theorem lay_lbs : ∀ q ∈ lay, q ∈ lbs := by decide +kernel
set_option maxHeartbeats 4000000 in
set_option maxRecDepth 100000 in
theorem rl_all (D : va_G) (cy : Nat → ClassId) (q7 : Nat) (o : Nat → Nat) (aa : Nat → Nat → Nat) (u3 : Nat × (Nat → Nat) × (Nat → Nat → Nat)) (q8 : Nat) (a8 : Nat → Nat) : RL2 D cy (adf q7 o aa u3 q8 a8) lbs (ow cy q7 o aa u3 ++ lf8 cy q8 a8) := by
  obtain ⟨k, b, a⟩ := u3
  refine RL2.app (RL2.cons ⟨rfl, fun H h => h⟩ (RL2.cons ⟨rfl, fun H h => at_ref h (fun j hj => ?_)⟩ ?_)) ?_
  · have hj : j < 2 := hj
    rcases (show j = 0 ∨ j = 1 by omega) with rfl | rfl <;> rfl
  · refine RL2.app (RL2.app (RL2.app (RL2.app (RL2.app (RL2.app (RL2.app (RL2.app (RL2.app (RL2.app (RL2.app (RL2.app ?_ ?_) ?_) ?_) ?_) ?_) ?_) ?_) ?_) ?_) ?_) ?_) ?_
    · exact RL2.cons ⟨rfl, fun H h => h⟩ RL2.nil
    · exact RL2.cons ⟨rfl, fun H h => h⟩ (RL2.cons ⟨rfl, fun H h => h⟩ RL2.nil)
    · exact RL2.cons ⟨rfl, fun H h => h⟩ (RL2.cons ⟨rfl, fun H h => h⟩ (RL2.cons ⟨rfl, fun H h => h⟩ (RL2.cons ⟨rfl, fun H h => h⟩ (RL2.cons ⟨rfl, fun H h => h⟩ (RL2.cons ⟨rfl, fun H h => h⟩ (RL2.cons ⟨rfl, fun H h => h⟩ RL2.nil))))))
    · exact RL2.cons ⟨rfl, fun H h => h⟩ (RL2.cons ⟨rfl, fun H h => h⟩ (RL2.cons ⟨rfl, fun H h => h⟩ (RL2.cons ⟨rfl, fun H h => h⟩ (RL2.cons ⟨rfl, fun H h => h⟩ (RL2.cons ⟨rfl, fun H h => h⟩ (RL2.cons ⟨rfl, fun H h => h⟩ RL2.nil))))))
    · exact rlD (by omega) rfl (fun j h1 h2 => by rcases (show j = 1 ∨ j = 2 ∨ j = 3 ∨ j = 4 by omega) with rfl | rfl | rfl | rfl <;> rfl)
    · exact rlD (by omega) rfl (fun j h1 h2 => by rcases (show j = 1 ∨ j = 2 ∨ j = 3 ∨ j = 4 by omega) with rfl | rfl | rfl | rfl <;> rfl)
    · refine RL2.cons ⟨rfl, fun H h => h⟩ (RL2.cons ⟨rfl, fun H h => at_ref h (fun j hj => ?_)⟩ (rlDs 20 (by omega) (fun i hi => ⟨?_, fun j h1 h2 => ?_⟩)))
      · have hj : j < 20 := hj
        show (if j < 20 then some (b j) else none) = some (adf q7 o aa (k, b, a) q8 a8 (4 + j, 0))
        unfold adf
        rw [if_pos hj, if_neg (show ¬ 4 + j = 26 by omega), if_neg (show ¬ 4 + j = 32 by omega), if_neg (show ¬ 4 + j = 28 by omega), if_pos (show 4 ≤ 4 + j ∧ 4 + j < 24 by omega), if_pos rfl]
        show some (b j) = some (b (4 + j - 4))
        rw [show 4 + j - 4 = j by omega]
      · unfold adf
        rw [if_neg (show ¬ 4 + i = 26 by omega), if_neg (show ¬ 4 + i = 32 by omega), if_neg (show ¬ 4 + i = 28 by omega), if_pos (show 4 ≤ 4 + i ∧ 4 + i < 24 by omega), if_pos rfl]
        show b (4 + i - 4) = b i
        rw [show 4 + i - 4 = i by omega]
      · unfold adf
        rw [if_neg (show ¬ 4 + i = 26 by omega), if_neg (show ¬ 4 + i = 32 by omega), if_neg (show ¬ 4 + i = 28 by omega), if_pos (show 4 ≤ 4 + i ∧ 4 + i < 24 by omega), if_neg (show ¬ j = 0 by omega)]
        show a (4 + i - 4) j = a i j
        rw [show 4 + i - 4 = i by omega]
    · exact RL2.cons ⟨rfl, fun H h => h⟩ RL2.nil
    · exact RL2.cons ⟨rfl, fun H h => h⟩ (RL2.cons ⟨rfl, fun H h => h⟩ (RL2.cons ⟨rfl, fun H h => h⟩ (RL2.cons ⟨rfl, fun H h => h⟩ (RL2.cons ⟨rfl, fun H h => h⟩ RL2.nil))))
    · exact RL2.cons ⟨rfl, fun H h => h⟩ (RL2.cons ⟨rfl, fun H h => h⟩ RL2.nil)
    · exact RL2.cons ⟨rfl, fun H h => h⟩ (RL2.cons ⟨rfl, fun H h => h⟩ RL2.nil)
    · exact rlD (by omega) rfl (fun j h1 h2 => by rcases (show j = 1 ∨ j = 2 ∨ j = 3 ∨ j = 4 by omega) with rfl | rfl | rfl | rfl <;> rfl)
    · exact rlD (by omega) rfl (fun j h1 h2 => by rcases (show j = 1 ∨ j = 2 ∨ j = 3 ∨ j = 4 by omega) with rfl | rfl | rfl | rfl <;> rfl)
  · refine RL2.cons ⟨rfl, fun H h => h⟩ (RL2.cons ⟨rfl, fun H h => h⟩ (RL2.cons ⟨rfl, fun H h => h⟩ (RL2.cons ⟨rfl, fun H h => h⟩ (RL2.cons ⟨rfl, fun H h => h⟩ (RL2.cons ⟨rfl, fun H h => h⟩ (RL2.cons ⟨rfl, fun H h => at_int h (fun j hj => ?_)⟩ (RL2.cons ⟨rfl, fun H h => h⟩ (RL2.cons ⟨rfl, fun H h => h⟩ (RL2.cons ⟨rfl, fun H h => h⟩ (RL2.cons ⟨rfl, fun H h => h⟩ (RL2.cons ⟨rfl, fun H h => h⟩ (RL2.cons ⟨rfl, fun H h => h⟩ (RL2.cons ⟨rfl, fun H h => h⟩ (RL2.cons ⟨rfl, fun H h => h⟩ (RL2.cons ⟨rfl, fun H h => h⟩ (RL2.cons ⟨rfl, fun H h => h⟩ (RL2.cons ⟨rfl, fun H h => h⟩ (RL2.cons ⟨rfl, fun H h => h⟩ (RL2.cons ⟨rfl, fun H h => h⟩ (RL2.cons ⟨rfl, fun H h => h⟩ (RL2.cons ⟨rfl, fun H h => h⟩ (RL2.cons ⟨rfl, fun H h => h⟩ (RL2.cons ⟨rfl, fun H h => h⟩ (RL2.cons ⟨rfl, fun H h => h⟩ (RL2.cons ⟨rfl, fun H h => h⟩ (RL2.cons ⟨rfl, fun H h => h⟩ RL2.nil))))))))))))))))))))))))))
    show (if j < 43 then (0 : Int32) else -1) = m0 32 11 j
    unfold m0
    by_cases hz : j < 43
    · rw [if_pos hz, if_neg (by omega)]
    · rw [if_neg hz, if_pos (by omega)]
theorem rel_0 : Rel 0 w0 := by
  refine ⟨⟨24, 0, 0, 0, 0, 0, 0, fun _ => 0, fun _ => 0, fun _ => 0, fun _ => 0, fun _ => 0, Or.inl rfl, ⟨rfl, rfl⟩, ?_, ?_, ?_, ?_, ?_⟩, ⟨0, by omega, rfl, rfl, fun i hi => by omega⟩, rfl, ⟨0, 0, by omega, by omega, rfl, rfl, rfl, rfl, fun i hi => by omega, fun i hi => by omega⟩⟩
  · refine ⟨⟨by omega, by omega, by omega, by omega, by omega, by omega, fun _ => rfl⟩, rfl, ⟨rfl, rfl⟩, ⟨rfl, rfl⟩, ⟨rfl, rfl⟩, ⟨rfl, rfl⟩, ⟨rfl, rfl⟩, ⟨rfl, rfl⟩, fun v hv => by omega, fun k hk => by omega, fun k hk => by omega, fun c j hc hj => ?_, fun c j hc hj => ?_⟩
    · show (0#64).getLsbD j = false
      simp
    · show (0#64).getLsbD j = false
      simp
  · refine ⟨0, 0, 0, 0, 0, 0, by omega, by omega, by omega, by omega, by omega, by omega, ⟨rfl, rfl⟩, ⟨rfl, rfl⟩, ⟨rfl, rfl⟩, ⟨rfl, rfl⟩, ⟨rfl, rfl⟩, ⟨rfl, rfl⟩, ⟨rfl, rfl, Or.inl rfl, rfl, rfl⟩, fun v hv => by omega, fun v hv => ⟨fun z => by omega, Or.inl rfl, Or.inr ⟨0, by omega, ?_⟩⟩, fun k hk => by omega, fun c _ hc => by omega⟩
    show m0 32 11 (18 + v) = nI 0
    unfold m0
    rw [if_neg (by omega)]; rfl
  · exact ⟨0, 0, by omega, by omega, rfl, rfl, rfl, fun u hu => by omega⟩
  · exact ⟨false, false, rfl, rfl, rfl, fun z => (by cases z), fun z => (by cases z)⟩
  · exact ⟨rfl, by decide⟩
