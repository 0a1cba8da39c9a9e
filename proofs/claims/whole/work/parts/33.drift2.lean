theorem q_drift {n : Nat} {w : Mem} (hn : n < 100) (h : Rel n w) (a : Int32) : Same n w (f7_drift a) (f8_drift a) := by
  obtain ⟨⟨g, nv, K, Y, I, F, Fo, ro, pe, fe, fs, fg, hC⟩, hT, hF, hN⟩ := id h
  obtain ⟨h1, h2, h3, h4, h5, h6, h7⟩ := id hC
  obtain ⟨r, f1, f2, f3⟩ := ref_ok h1 h2.1 h3 h4 a
  by_cases hr : r = 0
  · subst hr
    obtain ⟨t, ht, ht2, rfl⟩ := f3 rfl
    obtain ⟨s, hs, es⟩ := pos_nI h7.2
    have es2 : w.1 26 12 0 = nI s := h7.1.trans es
    obtain ⟨w1, f, hh, p1, p2, p3, p4, p5⟩ := RPa.push h3.1.1 h4 h5
    obtain ⟨D', N', s', r, u1, u2, u3, u4⟩ := dr_loop ht2 h3 t 0 (99 * n) s (w.1 0) (w.1 32 11) (by omega) (by omega) h4 hs
    have z1 := u3 w1 g 100000 ⟨h1, by rw [p3]; exact h2.1, p2 g (by omega) (by omega), by rw [p3]⟩ (by omega)
    have c0 : cS w1 s (w.1 0) = w1 := by
      unfold cS
      rw [upd_x (by rw [p2 26 (by omega) (by omega)]; exact es2), sA_id, ← p2 0 (by omega) (by omega), sO_id]
    rw [c0] at z1
    generalize hW : cS w1 s' D' = w2 at z1
    have o1 : ∀ d, d ≠ 0 → d ≠ 26 → w2.1 d = w1.1 d := fun d x1 x2 => by rw [← hW]; unfold cS; rw [sO_n x1, ob_sA x2]
    have o2 : w2.2 = w.2 := by rw [← hW]; unfold cS; rw [sO_2, sA_2, p3]
    have o3 : w2.1 0 = D' := by rw [← hW]; unfold cS; rw [sO_s]
    have o4 : ∀ k, k ≠ 12 → w2.1 26 k = w.1 26 k := fun k hk => by rw [← hW]; unfold cS; rw [sO_n (by omega), ky_sA (by omega), p2 26 (by omega) (by omega)]
    have o5 : w2.1 26 12 0 = nI s' := by rw [← hW]; unfold cS; rw [sO_n (by omega), kx_sA, upd_s]
    have w32 : w2.1 32 = w.1 32 := by rw [o1 32 (by omega) (by omega), p2 32 (by omega) (by omega)]
    have z2 := u4 (sA (sA w2 32 30 f) 32 29 hh) g 100000 ⟨h1, by rw [ob_sA (by omega), ob_sA (by omega), o1 g (by omega) (by omega), p2 g (by omega) (by omega)], by rw [sA_2, sA_2, o2], fun k hk => by rw [ky_sA (by omega), ky_sA (by omega), w32]⟩ (by omega)
    have c1 : mS (sA (sA w2 32 30 f) 32 29 hh) s (w.1 32 11) = sA (sA w2 32 30 f) 32 29 hh := by
      unfold mS
      rw [upd_x (by rw [ky_sA (by omega), ky_sA (by omega), w32]; exact es), sA_id, sA_x (by rw [ky_sA (by omega), ky_sA (by omega), w32])]
    rw [c1] at z2
    refine ⟨r, w2, _, ?_, ?_, Rel.step (W := mS (sA (sA w2 32 30 f) 32 29 hh) s' N') hC hT hF hN (fun d d1 d2 d3 d4 => ?_) (fun k hk => ?_) ?_ (fun k k1 k2 k3 k4 => ?_) ⟨?_, ?_⟩ ?_ ?_ ?_⟩
    · unfold f7_drift
      rw [f1, bO, if_pos rfl, p1, bV]; exact z1
    · unfold f8_drift
      rw [f2 _ (by rw [w32]) (by rw [w32]), bO, if_pos rfl, p4 _ (by rw [w32]) (by rw [w32]) (by rw [w32]), bV]; exact z2
    all_goals unfold mS
    · rw [ob_sA d4, ob_sA d4, ob_sA d4, ob_sA d4, o1 d (by omega) d3, p2 d (by omega) d2]
    · rw [ob_sA (by omega), ob_sA (by omega), ob_sA (by omega), ob_sA (by omega), o4 k hk]
    · rw [sA_2, sA_2, sA_2, sA_2, o2]
    · rw [ky_sA (by omega), ky_sA (by omega), ky_sA (by omega), ky_sA (by omega), w32]
    · rw [ob_sA (by omega), ob_sA (by omega), ob_sA (by omega), ob_sA (by omega), o1 2 (by omega) (by omega), p2 2 (by omega) (by omega)]
    · rw [ob_sA (by omega), ob_sA (by omega), ob_sA (by omega), ob_sA (by omega), o1 3 (by omega) (by omega), p2 3 (by omega) (by omega)]
    · rw [kx_sA, ob_sA (by omega), ob_sA (by omega), ob_sA (by omega), ob_sA (by omega), o3]
      exact u1.mono (by omega)
    · refine p5 _ _ (by omega) (fun d d1 d2 => ?_) ?_ ?_ ?_
      · rw [ob_sA (by omega), ob_sA (by omega), ob_sA (by omega), ob_sA (by omega), o1 d (by omega) (by omega)]
      · rw [ob_sA (by omega), ob_sA (by omega), ob_sA (by omega), ob_sA (by omega), o1 28 (by omega) (by omega)]
      · rw [ky_sA (by omega), ky_sA (by omega), ky_sA (by omega), kx_sA]
      · rw [ky_sA (by omega), ky_sA (by omega), kx_sA]
    · unfold RSd
      simp (disch := omega) only [ky_sA, kx_sA, upd_s, o5]
      exact ⟨trivial, nI_pos (by omega)⟩
  · refine ⟨r, w, w, ?_, ?_, h.next (by omega)⟩
    · unfold f7_drift
      rw [f1, bO, if_neg hr]
    · unfold f8_drift
      rw [f2 w rfl rfl, bO, if_neg hr]
