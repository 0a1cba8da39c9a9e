/-! what is kept for undoing -/
def cpo (f g : Nat → Int32) (c v : Nat) : Nat → Int32 := fun j => if 103 * c ≤ j ∧ j < 103 * c + v then f (j - 103 * c) else g j
def shp (P : Nat → Int32) (v : Nat) : Nat → Int32 := fun j => if j + 103 < v then P (j + 103) else P j
theorem cpo_s (f g : Nat → Int32) (c v : Nat) : upd (cpo f g c v) (103 * c + v) (f v) = cpo f g c (v + 1) := by
  funext j
  unfold cpo
  by_cases h : j = 103 * c + v
  · subst h; rw [upd_s, if_pos ⟨by omega, by omega⟩, show 103 * c + v - 103 * c = v by omega]
  · rw [upd_n h]
    by_cases h2 : 103 * c ≤ j ∧ j < 103 * c + v
    · rw [if_pos h2, if_pos ⟨h2.1, by omega⟩]
    · rw [if_neg h2, if_neg (by omega)]
theorem cpo_0 (f g : Nat → Int32) (c : Nat) : cpo f g c 0 = g := by
  funext j; exact if_neg (by omega)
theorem shp_s (P : Nat → Int32) (v : Nat) (hv : 103 ≤ v) : upd (shp P v) (v - 103) (P v) = shp P (v + 1) := by
  funext j
  unfold shp
  by_cases h : j = v - 103
  · subst h; rw [upd_s, if_pos (by omega), show v - 103 + 103 = v by omega]
  · rw [upd_n h]
    by_cases h2 : j + 103 < v
    · rw [if_pos h2, if_pos (by omega)]
    · rw [if_neg h2, if_neg (by omega)]
theorem shp_0 (P : Nat → Int32) : shp P 103 = P := by
  funext j; exact if_neg (by omega)
theorem shp_at (P : Nat → Int32) (v : Nat) : shp P v v = P v := if_neg (by omega)
theorem sA_c {w : Mem} {d k k' : Nat} {f f' : Nat → Int32} (h : k ≠ k') : sA (sA w d k f) d k' f' = sA (sA w d k' f') d k f := by
  unfold sA
  refine Prod.ext ?_ rfl
  funext a b
  dsimp only
  by_cases h1 : a = d ∧ b = k
  · rw [if_neg (show ¬ (a = d ∧ b = k') from fun z => h (by omega)), if_pos h1, if_pos h1]
  · by_cases h2 : a = d ∧ b = k'
    · rw [if_pos h2, if_neg h1, if_pos h2]
    · rw [if_neg h2, if_neg h1, if_neg h1, if_neg h2]
theorem r52 {w : Mem} {N P : Nat → Int32} {c : Nat} (hc : c < 20) (h29 : w.1 32 29 0 = nI c) (hN : w.1 32 11 = N) : ∀ k v n, v + k = 103 → k < n → f8_remember_52 n (nI v) (sA w 32 30 (cpo N P c v)) = some (sA (sA w 32 30 (cpo N P c 103)) 32 29 (upd (w.1 32 29) 0 (nI (c + 1)))) := by
  intro k
  induction k with
  | zero =>
    intro v n hv hn
    obtain ⟨n, rfl⟩ : ∃ m, n = m + 1 := ⟨n - 1, by omega⟩
    obtain rfl : v = 103 := by omega
    rw [f8_remember_52]
    simp (disch := omega) only [bE, bO, bV, bK, nI_lit, nI_add, lt_T, lt_F, le_T, le_F, eq_T, eq_F, ltm_T, ltm_F, lem_T, lem_F, eqm_F, meq_F, cl_nI, nle_T, nle_F, nlt_T, nlt_F, ↓reduceIte, or_true, true_or, or_false, false_or, and_true, true_and, and_false, false_and, not_true_eq_false, not_false_eq_true, or_self, and_self, true_implies, ite_self, ky_sA, h29, sI_sA]
  | succ k ih =>
    intro v n hv hn
    obtain ⟨n, rfl⟩ : ∃ m, n = m + 1 := ⟨n - 1, by omega⟩
    have i1 := ih (v + 1) n (by omega) (by omega)
    rw [← cpo_s] at i1
    rw [f8_remember_52]
    simp (disch := omega) only [bE, bO, bV, bK, nI_lit, nI_add, lt_T, lt_F, le_T, le_F, eq_T, eq_F, ltm_T, ltm_F, lem_T, lem_F, eqm_F, meq_F, cl_nI, nle_T, nle_F, nlt_T, nlt_F, ↓reduceIte, or_true, true_or, or_false, false_or, and_true, true_and, and_false, false_and, not_true_eq_false, not_false_eq_true, or_self, and_self, true_implies, ite_self, ky_sA, h29, pk_mul, sI_A, hN]
    exact i1
theorem r12 {w : Mem} {P : Nat → Int32} (h29 : w.1 32 29 0 = nI 20) : ∀ k v n, v + k = 2060 → 103 ≤ v → k < n → f8_remember_12 n (nI v) (sA w 32 30 (shp P v)) = f8_remember_52 100000 0 (sA (sA w 32 30 (shp P 2060)) 32 29 (upd (w.1 32 29) 0 (nI 19))) := by
  intro k
  induction k with
  | zero =>
    intro v n hv hv2 hn
    obtain ⟨n, rfl⟩ : ∃ m, n = m + 1 := ⟨n - 1, by omega⟩
    obtain rfl : v = 2060 := by omega
    rw [f8_remember_12]
    simp (disch := omega) only [bE, bO, bV, bK, nI_lit, nI_add, lt_T, lt_F, le_T, le_F, eq_T, eq_F, ltm_T, ltm_F, lem_T, lem_F, eqm_F, meq_F, cl_nI, nle_T, nle_F, nlt_T, nlt_F, ↓reduceIte, or_true, true_or, or_false, false_or, and_true, true_and, and_false, false_and, not_true_eq_false, not_false_eq_true, or_self, and_self, true_implies, ite_self, ky_sA, h29, sI_sA, pk_sub]
  | succ k ih =>
    intro v n hv hv2 hn
    obtain ⟨n, rfl⟩ : ∃ m, n = m + 1 := ⟨n - 1, by omega⟩
    have i1 := ih (v + 1) n (by omega) (by omega) (by omega)
    rw [← shp_s _ _ hv2] at i1
    rw [f8_remember_12]
    simp (disch := omega) only [bE, bO, bV, bK, nI_lit, nI_add, lt_T, lt_F, le_T, le_F, eq_T, eq_F, ltm_T, ltm_F, lem_T, lem_F, eqm_F, meq_F, cl_nI, nle_T, nle_F, nlt_T, nlt_F, ↓reduceIte, or_true, true_or, or_false, false_or, and_true, true_and, and_false, false_and, not_true_eq_false, not_false_eq_true, or_self, and_self, true_implies, ite_self, kx_sA, pk_sub, sI_A, shp_at]
    exact i1
def remF (P N : Nat → Int32) (c : Nat) : Nat → Int32 := cpo N (if c = 20 then shp P 2060 else P) (min c 19) 103
def remH (H : Nat → Int32) (c : Nat) : Nat → Int32 := if c = 20 then upd (upd H 0 (nI 19)) 0 (nI 20) else upd H 0 (nI (c + 1))
theorem rem_ok {w : Mem} {c : Nat} (hc : c ≤ 20) (h29 : w.1 32 29 0 = nI c) : f8_remember w = some (sA (sA w 32 30 (remF (w.1 32 30) (w.1 32 11) c)) 32 29 (remH (w.1 32 29) c)) := by
  unfold f8_remember remF remH
  by_cases h : c = 20
  · subst h
    have e := r12 (P := w.1 32 30) h29 1957 103 100000 (by omega) (by omega) (by omega)
    rw [shp_0, sA_id] at e
    have e2 := r52 (w := sA w 32 29 (upd (w.1 32 29) 0 (nI 19))) (N := w.1 32 11) (P := shp (w.1 32 30) 2060) (c := 19) (by omega) (by rw [kx_sA, upd_s]) (by rw [ky_sA (by omega)]) 103 0 100000 (by omega) (by omega)
    rw [cpo_0, kx_sA, sA_c (k := 29) (k' := 30) (by omega), sA_c (k := 29) (k' := 30) (by omega), sA_sA] at e2
    rw [h29, if_pos rfl, if_pos rfl, if_pos (show nI 20 = (20 : Int32) from rfl)]
    exact e.trans e2
  · rw [h29, if_neg (show ¬ nI c = 20 from fun z => h ((nI_eq (by omega) (by omega)).mp z)), if_neg h, if_neg h]
    have e2 := r52 (w := w) (N := w.1 32 11) (P := w.1 32 30) (c := c) (by omega) h29 rfl 103 0 100000 (by omega) (by omega)
    rw [cpo_0, sA_id] at e2
    rw [show min c 19 = c by omega]
    exact e2
theorem remF_new (P N : Nat → Int32) (c k : Nat) (hk : k < 103) : remF P N c (103 * (min c 19) + k) = N k := by
  unfold remF cpo
  rw [if_pos ⟨by omega, by omega⟩, show 103 * (min c 19) + k - 103 * (min c 19) = k by omega]
theorem remF_old (P N : Nat → Int32) (c u k : Nat) (hc : c ≤ 20) (hu : u < min c 19) (hk : k < 103) : remF P N c (103 * u + k) = P (103 * (u + (if c = 20 then 1 else 0)) + k) := by
  unfold remF cpo
  rw [if_neg (by omega)]
  by_cases h : c = 20
  · rw [if_pos h, if_pos h]
    unfold shp
    rw [if_pos (by omega), show 103 * u + k + 103 = 103 * (u + 1) + k by omega]
  · rw [if_neg h, if_neg h]; rfl
theorem remH_0 (H : Nat → Int32) (c : Nat) (hc : c ≤ 20) : remH H c 0 = nI (min (c + 1) 20) := by
  unfold remH
  by_cases h : c = 20
  · subst h; rw [if_pos rfl, upd_s]; rfl
  · rw [if_neg h, upd_s, show min (c + 1) 20 = c + 1 by omega]
theorem push_ok {w : Mem} {nx c : Nat} (hn : nx < 20) (hc : c ≤ 20) (e1 : w.1 28 1 0 = nI nx) (e2 : w.1 28 2 0 = nI c) (hb : w.1 0 13 0 = 0 ∨ w.1 0 13 0 = 1) : ∃ h1 h2 : Nat → Int32, h1 0 = nI ((nx + 1) % 20) ∧ h2 0 = nI (min (c + 1) 20) ∧ f3_push 0 w = some (sA (sA (sO w (4 + nx) (cpT (w.1 0) (w.1 (4 + nx)))) 28 1 h1) 28 2 h2) := by
  have z := cp_ok (w := w) (d0 := 4 + nx) (d1 := 0) (by omega) hb
  have r := jr (a := nx + 1) (d := 20) (by omega) (by omega) (by omega)
  refine ⟨upd (w.1 28 1) 0 (nI ((nx + 1) % 20)), (if c = 20 then w.1 28 2 else upd (w.1 28 2) 0 (nI (c + 1))), upd_s .., ?_, ?_⟩
  · by_cases h : c = 20
    · subst h; rw [if_pos rfl]; exact e2
    · rw [if_neg h, upd_s, show min (c + 1) 20 = c + 1 by omega]
  · unfold f3_push
    by_cases h : c = 20
    · subst h
      have y : (sA (sO w (4 + nx) (cpT (w.1 0) (w.1 (4 + nx)))) 28 1 (upd (w.1 28 1) 0 (nI ((nx + 1) % 20)))).1 28 2 = w.1 28 2 := by rw [ky_sA (by omega), sO_n (by omega)]
      have y2 := sA_id (sA (sO w (4 + nx) (cpT (w.1 0) (w.1 (4 + nx)))) 28 1 (upd (w.1 28 1) 0 (nI ((nx + 1) % 20)))) 28 2
      rw [y] at y2
      rw [if_pos rfl, y2]
      simp (disch := omega) only [bE, bO, bV, bK, nI_lit, nI_add, lt_T, lt_F, le_T, le_F, eq_T, eq_F, ltm_T, ltm_F, lem_T, lem_F, eqm_F, meq_F, cl_nI, nle_T, nle_F, nlt_T, nlt_F, ↓reduceIte, or_true, true_or, or_false, false_or, and_true, true_and, and_false, false_and, not_true_eq_false, not_false_eq_true, or_self, and_self, true_implies, ite_self, e1, show rb 28 = 4 from rfl, z, sO_n, r, sI_sA, ky_sA, e2]
    · rw [if_neg h]
      simp (disch := omega) only [bE, bO, bV, bK, nI_lit, nI_add, lt_T, lt_F, le_T, le_F, eq_T, eq_F, ltm_T, ltm_F, lem_T, lem_F, eqm_F, meq_F, cl_nI, nle_T, nle_F, nlt_T, nlt_F, ↓reduceIte, or_true, true_or, or_false, false_or, and_true, true_and, and_false, false_and, not_true_eq_false, not_false_eq_true, or_self, and_self, true_implies, ite_self, e1, show rb 28 = 4 from rfl, z, sO_n, r, sI_sA, ky_sA, e2]
theorem RPa.push {nv B : Nat} {w : Mem} (hnv : nv ≤ 8) (hR : RD 60 nv B (w.1 0) (w.1 32 11)) (hP : RPa nv B w) : ∃ w1 f h, f3_push 0 w = some w1 ∧ (∀ d, d < 4 ∨ 24 ≤ d → d ≠ 28 → w1.1 d = w.1 d) ∧ w1.2 = w.2 ∧ (∀ W : Mem, W.1 32 29 = w.1 32 29 → W.1 32 30 = w.1 32 30 → W.1 32 11 = w.1 32 11 → f8_remember W = some (sA (sA W 32 30 f) 32 29 h)) ∧ (∀ W B', B ≤ B' → (∀ d, 4 ≤ d → d < 24 → W.1 d = w1.1 d) → W.1 28 = w1.1 28 → W.1 32 30 = f → W.1 32 29 = h → RPa nv B' W) := by
  obtain ⟨nx, c, a1, a2, a3, a4, a5, a6⟩ := hP
  have d0 := hR.dn
  obtain ⟨h1, h2, p1, p2, p3⟩ := push_ok a1 a2 a3 a4 (by rw [d0.1]; exact d0.2.1)
  refine ⟨_, remF (w.1 32 30) (w.1 32 11) c, remH (w.1 32 29) c, p3, fun d hd hd2 => ?_, ?_, fun W e1 e2 e3 => ?_, fun W B' hB e1 e2 e3 e4 => ?_⟩
  · rw [ob_sA hd2, ob_sA hd2, sO_n (by omega)]
  · rw [sA_2, sA_2, sO_2]
  · have z := rem_ok (w := W) a2 (by rw [e1]; exact a5)
    rw [e1, e2, e3] at z
    exact z
  · refine ⟨(nx + 1) % 20, min (c + 1) 20, by omega, by omega, ?_, ?_, ?_, fun u hu => ?_⟩
    · rw [e2, ky_sA (by omega), kx_sA]; exact p1
    · rw [e2, kx_sA]; exact p2
    · rw [e4]; exact remH_0 _ c a2
    · rw [e3]
      by_cases hz : u = min c 19
      · have hi : 4 + ((nx + 1) % 20 + 20 - min (c + 1) 20 + u) % 20 = 4 + nx := by omega
        rw [hi, e1 _ (by omega) (by omega), ob_sA (by omega), ob_sA (by omega), sO_s]
        refine ((hR.cp hnv).cong hnv (fun k hk => ?_)).mono hB
        rw [hz]
        exact remF_new _ _ c k hk
      · have hi : 4 + ((nx + 1) % 20 + 20 - min (c + 1) 20 + u) % 20 = 4 + (nx + 20 - c + (u + (if c = 20 then 1 else 0))) % 20 := by
          by_cases h20 : c = 20
          · rw [if_pos h20]; omega
          · rw [if_neg h20]; omega
        have hu2 : u + (if c = 20 then 1 else 0) < c := by
          by_cases h20 : c = 20
          · rw [if_pos h20]; omega
          · rw [if_neg h20]; omega
        have y := a6 _ hu2
        have hne : 4 + (nx + 20 - c + (u + (if c = 20 then 1 else 0))) % 20 ≠ 4 + nx := by
          by_cases h20 : c = 20
          · rw [if_pos h20]; omega
          · rw [if_neg h20]; omega
        rw [hi, e1 _ (by omega) (by omega), ob_sA (by omega), ob_sA (by omega), sO_n hne]
        refine (y.cong hnv (fun k hk => ?_)).mono hB
        exact remF_old _ _ c u k a2 (by omega) hk
