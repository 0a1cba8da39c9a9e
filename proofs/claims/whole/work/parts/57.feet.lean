/-! the least feet: what is asked, and why the nearer one may go first -/
def mnv (P : Nat → Bool) (f : Nat → Nat) : Nat → Nat
  | 0 => 1000000
  | v + 1 => if P v && decide (f v < mnv P f v) then f v else mnv P f v
def am (P : Nat → Bool) (f : Nat → Nat) : Nat → Nat
  | 0 => 8
  | v + 1 => if P v && decide (f v < mnv P f v) then v else am P f v
theorem mnv_le (P : Nat → Bool) (f : Nat → Nat) : ∀ n, mnv P f n ≤ 1000000 := by
  intro n
  induction n with
  | zero => exact Nat.le_refl _
  | succ n ih =>
    rw [mnv]
    split
    · rename_i h
      have := of_decide_eq_true (Bool.and_eq_true_iff.mp h).2
      omega
    · exact ih
theorem mnv_s {P : Nat → Bool} {f : Nat → Nat} {v : Nat} (h1 : P v = true) (h2 : f v < mnv P f v) : mnv P f (v + 1) = f v ∧ am P f (v + 1) = v := by
  rw [mnv, am, h1, decide_eq_true h2]
  exact ⟨rfl, rfl⟩
theorem mnv_n {P : Nat → Bool} {f : Nat → Nat} {v : Nat} (h : P v = true → ¬ f v < mnv P f v) : mnv P f (v + 1) = mnv P f v ∧ am P f (v + 1) = am P f v := by
  rw [mnv, am]
  cases hp : P v with
  | false => exact ⟨rfl, rfl⟩
  | true => rw [decide_eq_false (h hp)]; exact ⟨rfl, rfl⟩
theorem mnv_lb {P : Nat → Bool} {f : Nat → Nat} {x : Nat} (hx : P x = true) : ∀ n, x < n → mnv P f n ≤ f x := by
  intro n
  induction n with
  | zero => intro h; omega
  | succ n ih =>
    intro h
    by_cases hc : P n = true ∧ f n < mnv P f n
    · rw [(mnv_s hc.1 hc.2).1]
      by_cases hz : x = n
      · subst hz; exact Nat.le_refl _
      · have := ih (by omega); omega
    · rw [(mnv_n (fun z z2 => hc ⟨z, z2⟩)).1]
      by_cases hz : x = n
      · subst hz
        exact Nat.not_lt.mp (fun z => hc ⟨hx, z⟩)
      · exact ih (by omega)
theorem mnv_am {P : Nat → Bool} {f : Nat → Nat} : ∀ n, mnv P f n < 1000000 → am P f n < n ∧ P (am P f n) = true ∧ f (am P f n) = mnv P f n := by
  intro n
  induction n with
  | zero => intro h; exact absurd h (Nat.lt_irrefl _)
  | succ n ih =>
    intro h
    by_cases hc : P n = true ∧ f n < mnv P f n
    · rw [(mnv_s hc.1 hc.2).1, (mnv_s hc.1 hc.2).2]
      exact ⟨by omega, hc.1, rfl⟩
    · rw [(mnv_n (fun z z2 => hc ⟨z, z2⟩)).1] at h ⊢
      rw [(mnv_n (fun z z2 => hc ⟨z, z2⟩)).2]
      obtain ⟨a, b, c⟩ := ih h
      exact ⟨by omega, b, c⟩
theorem mnv_congr {P P' : Nat → Bool} {f f' : Nat → Nat} : ∀ n, (∀ v, v < n → P v = P' v ∧ (P v = true → f v = f' v)) → mnv P f n = mnv P' f' n ∧ am P f n = am P' f' n := by
  intro n
  induction n with
  | zero => intro _; exact ⟨rfl, rfl⟩
  | succ n ih =>
    intro h
    obtain ⟨i1, i2⟩ := ih (fun v hv => h v (by omega))
    obtain ⟨h1, h2⟩ := h n (by omega)
    rw [mnv, mnv, am, am, i1, i2, ← h1]
    cases hp : P n with
    | false => exact ⟨rfl, rfl⟩
    | true => rw [h2 hp]; exact ⟨rfl, rfl⟩
def fr (nv Y : Nat) (ro : Nat → Nat) (fog : Nat → Bool) (c : Nat → Nat) (m x : Nat) : Bool := decide (x < nv ∧ (∀ j, j < m → m ≤ j + Y → c j ≠ x) ∧ ¬ (fog m = true ∧ 0 < ro x))
def opt (nv Y : Nat) (ro : Nat → Nat) (fog : Nat → Bool) : Nat → Nat → (Nat → Nat) → Nat
  | 0, _, _ => 0
  | r + 1, m, c => mnv (fr nv Y ro fog c m) (fun x => 2 * ro x + opt nv Y ro fog r (m + 1) (uN c m x)) nv
section Feet
variable {nv Y : Nat} {ro : Nat → Nat} {fog : Nat → Bool}
theorem fr_iff {c : Nat → Nat} {m x : Nat} : fr nv Y ro fog c m x = true ↔ x < nv ∧ (∀ j, j < m → m ≤ j + Y → c j ≠ x) ∧ ¬ (fog m = true ∧ 0 < ro x) := by
  unfold fr
  exact decide_eq_true_iff
theorem fr_congr {c c' : Nat → Nat} {m x : Nat} (h : ∀ j, j < m → m ≤ j + Y → c j = c' j) : fr nv Y ro fog c m x = fr nv Y ro fog c' m x := by
  rw [Bool.eq_iff_iff, fr_iff, fr_iff]
  constructor
  · rintro ⟨a, b, d⟩
    exact ⟨a, fun j h1 h2 => by rw [← h j h1 h2]; exact b j h1 h2, d⟩
  · rintro ⟨a, b, d⟩
    exact ⟨a, fun j h1 h2 => by rw [h j h1 h2]; exact b j h1 h2, d⟩
theorem opt_le (r m : Nat) (c : Nat → Nat) : opt nv Y ro fog r m c ≤ 1000000 := by
  cases r with
  | zero => exact Nat.zero_le _
  | succ r => exact mnv_le _ _ _
theorem opt_lb {r m x : Nat} {c : Nat → Nat} (h : fr nv Y ro fog c m x = true) : opt nv Y ro fog (r + 1) m c ≤ 2 * ro x + opt nv Y ro fog r (m + 1) (uN c m x) := mnv_lb (f := fun x => 2 * ro x + opt nv Y ro fog r (m + 1) (uN c m x)) h nv (fr_iff.mp h).1
theorem opt_ex (r m : Nat) (c : Nat → Nat) : opt nv Y ro fog (r + 1) m c = 1000000 ∨ ∃ x, fr nv Y ro fog c m x = true ∧ opt nv Y ro fog (r + 1) m c = 2 * ro x + opt nv Y ro fog r (m + 1) (uN c m x) := by
  by_cases h : opt nv Y ro fog (r + 1) m c < 1000000
  · obtain ⟨a, b, d⟩ := mnv_am nv h
    exact Or.inr ⟨_, b, d.symm⟩
  · have := opt_le (nv := nv) (Y := Y) (ro := ro) (fog := fog) (r + 1) m c
    exact Or.inl (by omega)
theorem opt_ext : ∀ r m c c', (∀ j, j < m → m ≤ j + Y → c j = c' j) → opt nv Y ro fog r m c = opt nv Y ro fog r m c' := by
  intro r
  induction r with
  | zero => intro m c c' h; rfl
  | succ r ih =>
    intro m c c' h
    rw [opt, opt]
    refine (mnv_congr nv (fun v hv => ⟨fr_congr h, fun _ => ?_⟩)).1
    show 2 * ro v + _ = 2 * ro v + _
    rw [ih (m + 1) (uN c m v) (uN c' m v) (fun j h1 h2 => by
      by_cases hz : j = m
      · subst hz; rw [uN_s, uN_s]
      · rw [uN_n hz, uN_n hz]; exact h j (by omega) (by omega))]
/-- two villages changed for each other -/
def sw (u v x : Nat) : Nat := if x = u then v else if x = v then u else x
theorem sw_u (u v : Nat) : sw u v u = v := if_pos rfl
theorem sw_v {u v : Nat} (h : u ≠ v) : sw u v v = u := by
  unfold sw
  rw [if_neg (fun z => h z.symm), if_pos rfl]
theorem sw_n {u v x : Nat} (h1 : x ≠ u) (h2 : x ≠ v) : sw u v x = x := by
  unfold sw
  rw [if_neg h1, if_neg h2]
theorem sw_sw {u v : Nat} (h : u ≠ v) (x : Nat) : sw u v (sw u v x) = x := by
  by_cases h1 : x = u
  · subst h1; rw [sw_u, sw_v h]
  · by_cases h2 : x = v
    · subst h2; rw [sw_v h, sw_u]
    · rw [sw_n h1 h2, sw_n h1 h2]
theorem fr_sw {u v m x : Nat} {c c' : Nat → Nat} (huv : u ≠ v) (hs : ∀ j, j < m → m ≤ j + Y → c' j = sw u v (c j)) (h : fr nv Y ro fog c m x = true) (h1 : sw u v x < nv) (h2 : fog m = true → ro x = 0 → ro (sw u v x) = 0) : fr nv Y ro fog c' m (sw u v x) = true := by
  obtain ⟨a, b, d⟩ := fr_iff.mp h
  refine fr_iff.mpr ⟨h1, fun j j1 j2 z => ?_, fun z => ?_⟩
  · rw [hs j j1 j2] at z
    have e := congrArg (sw u v) z
    rw [sw_sw huv, sw_sw huv] at e
    exact b j j1 j2 e
  · have e : ro x = 0 := by
      by_cases hz : 0 < ro x
      · exact absurd ⟨z.1, hz⟩ d
      · omega
    have := h2 z.1 e
    omega
theorem sw_up {u v m x : Nat} {c c' : Nat → Nat} (hs : ∀ j, j < m → m ≤ j + Y → c' j = sw u v (c j)) : ∀ j, j < m + 1 → m + 1 ≤ j + Y → uN c' m (sw u v x) j = sw u v (uN c m x j) := by
  intro j h1 h2
  by_cases hz : j = m
  · subst hz; rw [uN_s, uN_s]
  · rw [uN_n hz, uN_n hz]; exact hs j (by omega) (by omega)
/-- the exchange: behind a day on which one had u and the other v -/
theorem swap {u v k N : Nat} (huv : u ≠ v) (hu : u < nv) (hv : v < nv) (hr : ro v ≤ ro u) (hf : (∀ j, k < j → j < N → fog j = false) ∨ (ro v = 0 → ro u = 0)) :
    ∀ r m c c', k < m → m + r = N → (∀ j, j < m → m ≤ j + Y → c' j = sw u v (c j)) →
      (2 * ro v + opt nv Y ro fog r m c' ≤ 2 * ro u + opt nv Y ro fog r m c) ∧
      ((∃ t, t < m ∧ c t = v ∧ ∀ j, t < j → j < m → c j ≠ u ∧ c j ≠ v) → opt nv Y ro fog r m c' ≤ opt nv Y ro fog r m c) := by
  intro r
  induction r with
  | zero =>
    intro m c c' hk hm hs
    rw [opt, opt]
    exact ⟨by omega, fun _ => Nat.le_refl _⟩
  | succ r ih =>
    intro m c c' hk hm hs
    have f1 : fog m = true → ro v = 0 → ro u = 0 := fun z z2 => by
      rcases hf with q | q
      · rw [q m hk (by omega)] at z; cases z
      · exact q z2
    have ho := opt_le (nv := nv) (Y := Y) (ro := ro) (fog := fog) (r + 1) m c'
    rcases opt_ex (nv := nv) (Y := Y) (ro := ro) (fog := fog) r m c with e | ⟨x, hx, e⟩
    · rw [e]
      exact ⟨by omega, fun _ => ho⟩
    · have hxn := (fr_iff.mp hx).1
      by_cases xu : x = u
      · subst xu
        have h2 := fr_sw huv hs hx (by rw [sw_u]; exact hv) (by rw [sw_u]; intro _ z; omega)
        have h3 := (ih (m + 1) (uN c m x) (uN c' m (sw x v x)) (by omega) (by omega) (sw_up hs)).1
        have h4 := opt_lb (r := r) h2
        rw [sw_u] at h3 h4
        rw [e]
        exact ⟨by omega, fun _ => by omega⟩
      · by_cases xv : x = v
        · subst xv
          have h2 := fr_sw huv hs hx (by rw [sw_v huv]; exact hu) (by rw [sw_v huv]; exact f1)
          have h3 := (ih (m + 1) (uN c m x) (uN c' m (sw u x x)) (by omega) (by omega) (sw_up hs)).2 ⟨m, by omega, uN_s .., fun j j1 j2 => by omega⟩
          have h4 := opt_lb (r := r) h2
          rw [sw_v huv] at h3 h4
          rw [e]
          refine ⟨by omega, fun ⟨t, t1, t2, t3⟩ => ?_⟩
          -- v again: no one of the two stands in the year, so both go on alike
          have tY : ¬ m ≤ t + Y := fun z => (fr_iff.mp hx).2.1 t t1 z t2
          have same : ∀ j, j < m → m ≤ j + Y → c j = c' j := fun j j1 j2 => by
            obtain ⟨y1, y2⟩ := t3 j (by omega) j1
            rw [hs j j1 j2, sw_n y1 y2]
          have h5 : fr nv Y ro fog c' m x = true := by rw [← fr_congr same]; exact hx
          have h6 := opt_lb (r := r) h5
          have h7 : opt nv Y ro fog r (m + 1) (uN c m x) = opt nv Y ro fog r (m + 1) (uN c' m x) := opt_ext r (m + 1) _ _ (fun j j1 j2 => by
            by_cases hz : j = m
            · subst hz; rw [uN_s, uN_s]
            · rw [uN_n hz, uN_n hz]; exact same j (by omega) (by omega))
          omega
        · have h2 := fr_sw huv hs hx (by rw [sw_n xu xv]; exact hxn) (by rw [sw_n xu xv]; exact fun _ z => z)
          obtain ⟨h3, h3'⟩ := ih (m + 1) (uN c m x) (uN c' m (sw u v x)) (by omega) (by omega) (sw_up hs)
          have h4 := opt_lb (r := r) h2
          rw [sw_n xu xv] at h3 h3' h4
          rw [e]
          refine ⟨by omega, fun ⟨t, t1, t2, t3⟩ => ?_⟩
          have h5 := h3' ⟨t, by omega, by rw [uN_n (by omega)]; exact t2, fun j j1 j2 => by
            by_cases hz : j = m
            · subst hz; rw [uN_s]; exact ⟨xu, xv⟩
            · rw [uN_n hz]; exact t3 j j1 (by omega)⟩
          omega
/-- of two that are free the nearer one goes first -/
theorem first_ok {u v k r : Nat} {c : Nat → Nat} (hu : fr nv Y ro fog c k u = true) (hv : fr nv Y ro fog c k v = true) (hr : ro v ≤ ro u) (hf : (∀ j, k < j → j < k + 1 + r → fog j = false) ∨ (ro v = 0 → ro u = 0)) : 2 * ro v + opt nv Y ro fog r (k + 1) (uN c k v) ≤ 2 * ro u + opt nv Y ro fog r (k + 1) (uN c k u) := by
  by_cases huv : u = v
  · subst huv; exact Nat.le_refl _
  · obtain ⟨a1, a2, -⟩ := fr_iff.mp hu
    obtain ⟨b1, b2, -⟩ := fr_iff.mp hv
    refine (swap huv a1 b1 hr hf r (k + 1) (uN c k u) (uN c k v) (by omega) rfl (fun j j1 j2 => ?_)).1
    by_cases hz : j = k
    · subst hz; rw [uN_s, uN_s, sw_u]
    · rw [uN_n hz, uN_n hz, sw_n (a2 j (by omega) (by omega)) (b2 j (by omega) (by omega))]
end Feet
