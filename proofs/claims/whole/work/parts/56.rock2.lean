/-! the rock: both sides -/
theorem crock0 {tx : Nat → Nat} {L e : Nat} {w : Mem} (he : e = 24 ∨ e = 25) (hL : L ≤ 200) (ht : ∀ i, i < L → tx i < 256 ∧ w.1 26 0 i = nI (tx i)) : ∃ w0, f5_read (nI L) e w = f5_read_36 (nI L) e 100000 (nI 0) w0 ∧ (∀ d, d ≠ 27 → d ≠ e → w0.1 d = w.1 d) ∧ (∀ d, d ≠ e → w0.2.1 d = w.2.1 d) ∧ (∀ d, d ≠ 27 → w0.2.2 d = w.2.2 d) ∧ RS tx L (n1 tx L 0) w0 ∧ DS e 0 0 0 0 0 0 (fun _ => 0) (fun _ => 0) (fun _ => 0) (fun _ => 0) (fun _ => 0) (fun _ => 0) w0 := by
  have ej : jmin (nI L) 240 = nI L := by
    unfold jmin
    rw [if_neg (show ¬ (240 : Int32) < nI L from fun z => absurd ((nI_ltI (a := 240) (by omega) (by omega)).mp z) (by omega))]
  obtain ⟨W, hW⟩ : ∃ W, W = sI (sI (sI (sR w 27 0 (26, 1)) 27 1 0 (nI L)) 27 4 0 (nI 0)) 27 2 0 (nI 0) := ⟨_, rfl⟩
  obtain ⟨w5, a1, a2, a3, a4, a5, a6, a7⟩ := clear_ok (e := e) W
  have wd : ∀ d, d ≠ 27 → W.1 d = w.1 d := fun d hd => by rw [hW, ob_sI hd, ob_sI hd, ob_sI hd]; rfl
  have h5 : RS tx L 0 w5 := by
    refine ⟨⟨hL, by omega⟩, ?_, ?_, ?_, ?_, fun i hi => ⟨(ht i hi).1, ?_⟩⟩
    · rw [a4, hW, rd_sI3, rd_sI3, rd_sI3, rd_sR3, if_pos ⟨rfl, rfl⟩]
    · rw [a2 27 (by omega), hW]; simp (disch := omega) only [ky_sI, kx_sI, upd_s]
    · rw [a2 27 (by omega), hW]; simp (disch := omega) only [ky_sI, kx_sI, upd_s]
    · rw [a2 27 (by omega), hW]; simp (disch := omega) only [kx_sI, upd_s]
    · rw [a2 26 (by omega), wd 26 (by omega)]; exact (ht i hi).2
  have hn := n_le (tx := tx) (L := L) (p := 0) (by omega)
  have sk := sk_ok h5
  refine ⟨sI w5 27 4 0 (nI (n1 tx L 0)), ?_, fun d h1 h2 => ?_, fun d hd => ?_, fun d hd => ?_, h5.at (by omega), DS.o (w := w5) ?_ he ⟨fun d hd => ob_sI hd, rfl⟩⟩
  · unfold f5_read
    rw [ej]
    simp only [bE]
    rw [show sI (sI (sI (sR w 27 0 (26, 1)) 27 1 0 (nI L)) 27 4 0 0) 27 2 0 0 = W from hW.symm, a1, bV, sk, bV]
    rfl
  · rw [ob_sI h1, a2 d h2, wd d h1]
  · rw [rd_sI2, a3 d hd, hW]; rfl
  · rw [rd_sI3, a4, hW, rd_sI3, rd_sI3, rd_sI3]
    funext k
    rw [rd_sR3, if_neg (fun z => hd z.1)]
  · refine ⟨⟨by omega, by omega, by omega, by omega, by omega, by omega, fun _ => ⟨rfl, rfl, rfl⟩⟩, ⟨by rw [if_pos rfl]; exact a5 0 (by omega), a5 1 (by omega), a5 2 (by omega), a5 3 (by omega), a5 4 (by omega), a5 5 (by omega), a5 6 (by omega)⟩, fun v hv => by omega, fun i hi => by omega, fun i hi => by omega, fun c j hc hj => ?_, fun c j hc hj => ?_⟩
    · rw [a6 c hc]
      show (0#64).getLsbD j = false
      simp
    · rw [a7 c hc]
      show (0#64).getLsbD j = false
      simp
theorem m10 (c : Nat) : (-10 : Int32) - nI c = (-10) - nI c := rfl
theorem q_rock {n : Nat} {w : Mem} (hn : n < 100) (h : Rel n w) : Same n w f7_rock f8_rock := by
  obtain ⟨⟨g, nv, K, Y, I, F, Fo, ro, pe, fe, fs, fg, h1, h2, h3, h4, h5, h6, h7⟩, ⟨L, t1, t2, t3, t4⟩, hF, hN⟩ := id h
  obtain ⟨e, hee⟩ : ∃ e, e = 49 - g := ⟨_, rfl⟩
  have he : e = 24 ∨ e = 25 := by omega
  have hge : g ≠ e := by omega
  have h25 : w.2.2 26 5 = (e, 0) := by rw [h2.2, hee]
  obtain ⟨tx, htx⟩ : ∃ tx : Nat → Nat, tx = fun i => (w.1 26 0 i).toNatClampNeg := ⟨_, rfl⟩
  have hc : ∀ i, i < L → tx i < 256 ∧ w.1 26 0 i = nI (tx i) := by
    intro i hi
    obtain ⟨c, c1, c2, c3⟩ := t4 i hi
    have e1 : tx i = c := by rw [htx]; show (w.1 26 0 i).toNatClampNeg = c; rw [c2]; exact cl_nI (by omega)
    rw [e1]; exact ⟨c1, c2⟩
  have hm : ∀ i, i < L → tx i < 256 ∧ w.1 32 13 i = nI (tx i) := by
    intro i hi
    obtain ⟨c, c1, c2, c3⟩ := t4 i hi
    have e1 : tx i = c := by rw [htx]; show (w.1 26 0 i).toNatClampNeg = c; rw [c2]; exact cl_nI (by omega)
    rw [e1]; exact ⟨c1, c3⟩
  obtain ⟨w0, a1, a2, a3, a4, a5, a6⟩ := crock0 (w := w) (L := L) he (by omega) hc
  have er : f5_read (w.1 26 1 0) e w = f5_read_36 (nI L) e 100000 (nI 0) w0 := by rw [t2]; exact a1
  have lp : ∀ u, MP tx L 0 u → MRd 0 0 0 0 0 0 (fun _ => 0) (fun _ => 0) (fun _ => 0) (fun _ => 0) (fun _ => 0) (fun _ => 0) u → _ := fun u m M => loop2 (a := nI L) he L (n1 tx L 0) 0 0 100000 100000 0 0 0 0 0 0 (fun _ => 0) (fun _ => 0) (fun _ => 0) (fun _ => 0) (fun _ => 0) (fun _ => 0) w0 u a5 m rfl a6 M (by omega) (by omega) (by omega) (by omega)
  obtain ⟨u0, b1, b2, b3, b4, b5⟩ := mrock0 (u := w) (L := L) (tx := tx) (by omega) t3 hm
  rcases lp u0 b3 b4 with ⟨c, q, w', u', c1, c2, c3, c4, -, -, -⟩ | ⟨nv', K', Y', I', F', Fo', ro', pe', ob', fe', fs', fg', w', u', c2, c3, c4, -, -, -⟩
  · -- a fault
    obtain ⟨X, hX⟩ : ∃ X, X = sI (sI w' 26 1 0 (nI 0)) 26 2 0 (nI q) := ⟨_, rfl⟩
    have eA : f7_rock w = some ((-10) - nI c, X) := by
      unfold f7_rock
      rw [rk_g he h25, bK, er, c2, bO]
      simp only [bE]
      rw [if_neg (nI_nz c1.1 c1.2.1), show (sI w' 26 1 0 0).1 27 4 0 = nI q by rw [ob_sI (by omega)]; exact c4.2, hX]
      rfl
    have x1 : ∀ d, d ≠ 26 → d ≠ 27 → d ≠ e → X.1 d = w.1 d := fun d k1 k2 k3 => by rw [hX, ob_sI k1, ob_sI k1, c3.1 d k2 k3, a2 d k2 k3]
    have x2 : ∀ k, k ≠ 1 → k ≠ 2 → X.1 26 k = w.1 26 k := fun k k1 k2 => by rw [hX, ky_sI (by omega), ky_sI (by omega), c3.1 26 (by omega) (by omega), a2 26 (by omega) (by omega)]
    have x3 : ∀ d, d ≠ e → X.2.1 d = w.2.1 d := fun d hd => by rw [hX, rd_sI2, rd_sI2, c3.2.1 d hd, a3 d hd]
    have x4 : ∀ d, d ≠ 27 → X.2.2 d = w.2.2 d := fun d hd => by rw [hX, rd_sI3, rd_sI3, c3.2.2, a4 d hd]
    obtain ⟨v0, d1, d2, d3, d4, d5⟩ := mrock0 (u := X) (L := L) (tx := tx) (by omega) (by rw [x1 32 (by omega) (by omega) (by omega)]; exact t3) (by rw [x1 32 (by omega) (by omega) (by omega)]; exact hm)
    rcases lp v0 d3 d4 with ⟨c', q', w'', u', e1, e2, e3, e4, e5, e6, e7⟩ | ⟨_, _, _, _, _, _, _, _, _, _, _, _, w'', u', e2, -⟩
    · have z := Option.some.inj (c2.symm.trans e2)
      have zc : c = c' := (nI_eq (by omega) (by omega)).mp (congrArg Prod.fst z)
      have zw : w' = w'' := congrArg Prod.snd z
      subst zc
      subst zw
      have zq : nI q = nI q' := c4.2.symm.trans e4.2
      refine ⟨(-10) - nI c, X, sI u' 32 14 0 (nI 0), eA, ?_, ?_⟩
      · rw [d1, e5]
        unfold f8_rock_66
        simp only [bE]
        rw [if_neg (nI_nle0 c1.1 c1.2.1)]
        rfl
      · have y1 : ∀ d, d ≠ 32 → (sI u' 32 14 0 (nI 0)).1 d = X.1 d := fun d hd => by rw [ob_sI hd, e6.1 d hd, d2.1 d hd]
        have y2 : ∀ k, k < 14 ∨ 28 < k → (sI u' 32 14 0 (nI 0)).1 32 k = w.1 32 k := fun k hk => by rw [ky_sI (by omega), e6.2.1 k (by omega), d2.2.1 k (by omega), x1 32 (by omega) (by omega) (by omega)]
        have y3 : (sI u' 32 14 0 (nI 0)).2 = X.2 := by show u'.2 = X.2; rw [e6.2.2, d2.2.2]
        refine ⟨⟨g, nv, K, Y, I, F, Fo, ro, pe, fe, fs, fg, RCo.same (w := w) (n := n) ⟨h1, h2, h3, h4, h5, h6, h7⟩ ⟨fun d k1 k2 => ?_, ⟨?_, ?_⟩, ⟨?_, ?_⟩, ⟨?_, ?_, ?_⟩, ⟨?_, ?_⟩, fun k hk => ?_⟩ (by omega)⟩, ⟨0, by omega, ?_, ?_, fun i hi => by omega⟩, ?_, hN.same (fun k hk => ?_) (fun k k1 k2 => ?_)⟩
        · rw [y1 d (by omega), x1 d (by omega) (by omega) (by omega)]
        · rw [y1 g (by omega), x1 g (by omega) (by omega) (by omega)]
        · rw [y3, x3 g (by omega)]
        · rw [y3, x4 26 (by omega)]
        · rw [y3, x4 26 (by omega)]
        · rw [y1 26 (by omega), x2 10 (by omega) (by omega)]
        · rw [y1 26 (by omega), x2 11 (by omega) (by omega)]
        · rw [y1 26 (by omega), x2 12 (by omega) (by omega)]
        · rw [y1 28 (by omega), x1 28 (by omega) (by omega) (by omega)]
        · rw [y1 28 (by omega), x1 28 (by omega) (by omega) (by omega)]
        · rw [y2 k (by omega)]
        · rw [y1 26 (by omega), hX, ky_sI (by omega), kx_sI, upd_s]
        · rw [kx_sI, upd_s]
        · show (sI u' 32 14 0 (nI 0)).1 26 2 0 = (sI u' 32 14 0 (nI 0)).1 32 15 0
          rw [y1 26 (by omega), hX, kx_sI, upd_s, ky_sI (by omega), e7, zq]
        · rw [y1 29 (by omega), x1 29 (by omega) (by omega) (by omega)]
        · rw [y2 k (by omega)]
    · have z := Option.some.inj (c2.symm.trans e2)
      exact absurd (congrArg Prod.fst z) (nI_nz c1.1 c1.2.1)
  · -- no fault
    obtain ⟨X0, hX0⟩ : ∃ X0, X0 = sR (sR (sI (sI w' 26 1 0 (nI 0)) 26 2 0 (-1)) 26 4 (e, 0)) 26 5 (g, 0) := ⟨_, rfl⟩
    obtain ⟨X1, g1, g2, g3, g4, g5, g6⟩ := begin_ok he X0
    obtain ⟨X, hX⟩ : ∃ X, X = sI (sI (sI (sI X1 29 4 0 (nI 0)) 29 5 0 (nI 0)) 28 2 0 (nI 0)) 26 11 0 (nI 0) := ⟨_, rfl⟩
    have p4 : X0.2.2 26 4 = (e, 0) := by rw [hX0, rd_sR3, if_neg (by omega), rd_sR3, if_pos ⟨rfl, rfl⟩]
    have p5 : X0.2.2 26 5 = (g, 0) := by rw [hX0, rd_sR3, if_pos ⟨rfl, rfl⟩]
    have xx : X.2 = X0.2 := by rw [hX]; exact g3
    have w26 : ∀ k, w'.2.2 26 k = w.2.2 26 k := fun k => by rw [c3.2.2, a4 26 (by omega)]
    have x01 : ∀ d, d ≠ 26 → d ≠ 27 → d ≠ e → X0.1 d = w.1 d := fun d k1 k2 k3 => by rw [hX0, rd_sR1, rd_sR1, ob_sI k1, ob_sI k1, c3.1 d k2 k3, a2 d k2 k3]
    have x0e : X0.1 e = w'.1 e := by rw [hX0, rd_sR1, rd_sR1, ob_sI (by omega), ob_sI (by omega)]
    have x1 : ∀ d, d ≠ 0 → d ≠ 26 → d ≠ 27 → d ≠ 28 → d ≠ 29 → d ≠ e → X.1 d = w.1 d := fun d k0 k1 k2 k3 k4 k5 => by rw [hX, ob_sI k1, ob_sI k3, ob_sI k4, ob_sI k4, g2 d k0, x01 d k1 k2 k5]
    have xe : X.1 e = w'.1 e := by rw [hX, ob_sI (by omega), ob_sI (by omega), ob_sI (by omega), ob_sI (by omega), g2 e (by omega), x0e]
    have xle : X.2.1 e = w'.2.1 e := by rw [xx, hX0]; rfl
    have x0 : X.1 0 = X1.1 0 := by rw [hX, ob_sI (by omega), ob_sI (by omega), ob_sI (by omega), ob_sI (by omega)]
    have x26 : ∀ k, k ≠ 1 → k ≠ 2 → k ≠ 11 → X.1 26 k = w.1 26 k := fun k k1 k2 k3 => by
      rw [hX, ky_sI (by omega), ob_sI (by omega), ob_sI (by omega), ob_sI (by omega), g2 26 (by omega), hX0, rd_sR1, rd_sR1, ky_sI (by omega), ky_sI (by omega), c3.1 26 (by omega) (by omega), a2 26 (by omega) (by omega)]
    have x261 : X.1 26 1 0 = nI 0 := by
      rw [hX, ky_sI (by omega), ob_sI (by omega), ob_sI (by omega), ob_sI (by omega), g2 26 (by omega), hX0, rd_sR1, rd_sR1, ky_sI (by omega), kx_sI, upd_s]
    have x262 : X.1 26 2 0 = -1 := by
      rw [hX, ky_sI (by omega), ob_sI (by omega), ob_sI (by omega), ob_sI (by omega), g2 26 (by omega), hX0, rd_sR1, rd_sR1, kx_sI, upd_s]
    have x2611 : X.1 26 11 0 = nI 0 := by rw [hX, kx_sI, upd_s]
    have x281 : X.1 28 1 = w.1 28 1 := by
      rw [hX, ob_sI (by omega), ky_sI (by omega), ob_sI (by omega), ob_sI (by omega), g2 28 (by omega), x01 28 (by omega) (by omega) (by omega)]
    have x282 : X.1 28 2 0 = nI 0 := by rw [hX, ob_sI (by omega), kx_sI, upd_s]
    have x294 : X.1 29 4 0 = nI 0 := by rw [hX, ob_sI (by omega), ob_sI (by omega), ky_sI (by omega), kx_sI, upd_s]
    have x295 : X.1 29 5 0 = nI 0 := by rw [hX, ob_sI (by omega), ob_sI (by omega), kx_sI, upd_s]
    have eA : f7_rock w = some (X.1 e 4 0, X) := by
      unfold f7_rock f2_clear f3_clear
      rw [rk_g he h25, bK, er, c2, bO]
      simp only [bE]
      rw [if_pos (show nI 0 = (0 : Int32) from rfl), rk_g h1 (show (sI (sI w' 26 1 0 0) 26 2 0 (-1)).2.2 26 4 = (g, 0) by rw [rd_sI3, rd_sI3, w26]; exact h2.1), bK, rk_g he (show (sI (sI w' 26 1 0 0) 26 2 0 (-1)).2.2 26 5 = (e, 0) by rw [rd_sI3, rd_sI3, w26]; exact h25), bK, show sR (sR (sI (sI w' 26 1 0 0) 26 2 0 (-1)) 26 4 (e, 0)) 26 5 (g, 0) = X0 from hX0.symm, rk_g he p4, bK, g1, bV, bV, bV, show sI (sI (sI (sI X1 29 4 0 0) 29 5 0 0) 28 2 0 0) 26 11 0 0 = X from hX.symm, rk_g he (show X.2.2 26 4 = (e, 0) by rw [xx]; exact p4), bK]
    obtain ⟨v0, d1, d2, d3, d4, d5⟩ := mrock0 (u := X) (L := L) (tx := tx) (by omega) (by rw [x1 32 (by omega) (by omega) (by omega) (by omega) (by omega) (by omega)]; exact t3) (by rw [x1 32 (by omega) (by omega) (by omega) (by omega) (by omega) (by omega)]; exact hm)
    rcases lp v0 d3 d4 with ⟨c', q', w'', u', e1, e2, -⟩ | ⟨nv2, K2, Y2, I2, F2, Fo2, ro2, pe2, ob2, fe2, fs2, fg2, w'', u', e2, e3, e4, e5, e6, e7⟩
    · have z := Option.some.inj (c2.symm.trans e2)
      exact absurd (congrArg Prod.fst z).symm (nI_nz e1.1 e1.2.1)
    · have zw : w' = w'' := congrArg Prod.snd (Option.some.inj (c2.symm.trans e2))
      subst zw
      obtain ⟨⟨s1, s2, s3, s4, s5, s6, s7⟩, ⟨r0, r1, r2, r3, r4, r5, r6⟩, z1, z2, z3, z4, z5⟩ := e4
      have M2 : MRd nv2 K2 Y2 I2 F2 Fo2 ro2 pe2 ob2 fe2 fs2 fg2 (sI u' 32 14 0 (nI 0)) := by
        unfold MRd at e7 ⊢
        simp (disch := omega) only [ky_sI]
        exact e7
      obtain ⟨u3, k1, k2, k3, k4, ⟨k5, k6, k7, k8, k9, k10⟩, k11, k12, k13, k14, k15⟩ := tr_ok ⟨s1, s5, s6⟩ M2
      obtain ⟨Z, hZ⟩ : ∃ Z, Z = sI (sI (sI (sI (sI u3 32 37 0 (nI 0)) 32 40 0 (nI 0)) 32 29 0 (nI 0)) 32 44 0 (nI 0)) 32 44 1 (nI 0) := ⟨_, rfl⟩
      have o1 : ∀ d, d ≠ 32 → Z.1 d = X.1 d := fun d hd => by rw [hZ, ob_sI hd, ob_sI hd, ob_sI hd, ob_sI hd, ob_sI hd, k2 d hd, ob_sI hd, e6.1 d hd, d2.1 d hd]
      have o2 : Z.2 = X.2 := by rw [hZ]; show u3.2 = X.2; rw [k3]; show u'.2 = X.2; rw [e6.2.2, d2.2.2]
      have o3 : ∀ k, k ≠ 37 → k ≠ 40 → k ≠ 29 → k ≠ 44 → Z.1 32 k = u3.1 32 k := fun k j1 j2 j3 j4 => by rw [hZ, ky_sI (by omega), ky_sI (by omega), ky_sI (by omega), ky_sI (by omega), ky_sI (by omega)]
      have o4 : ∀ k, k = 12 ∨ 28 < k → u3.1 32 k = w.1 32 k := fun k hk => by rw [k4 k (by omega), ky_sI (by omega), e6.2.1 k (by omega), d2.2.1 k (by omega), x1 32 (by omega) (by omega) (by omega) (by omega) (by omega) (by omega)]
      have q3 : Z.1 32 3 0 = nI nv2 := by rw [o3 3 (by omega) (by omega) (by omega) (by omega)]; exact k8
      refine ⟨nI nv2, X, Z, ?_, ?_, ?_⟩
      · rw [eA, xe, r4]
      · rw [d1, e5]
        unfold f8_rock_66
        simp only [bE]
        rw [if_pos (show nI 0 ≤ 0 by decide), show f8_takeRead (sI u' 32 14 0 0) = _ from k1, bV, show sI (sI (sI (sI (sI u3 32 37 0 0) 32 40 0 0) 32 29 0 0) 32 44 0 0) 32 44 1 0 = Z from hZ.symm, q3]
      · refine ⟨⟨e, nv2, K2, Y2, I2, F2, Fo2, ro2, pe2, fe2, fs2, fg2, he, ⟨?_, ?_⟩, ?_, ?_, ?_, ?_, ?_⟩, ⟨0, by omega, ?_, ?_, fun i hi => by omega⟩, ?_, ⟨0, 0, by omega, by omega, ?_, ?_, ?_, ?_, fun i hi => by omega, fun i hi => by omega⟩⟩
        · rw [o2, xx]; exact p4
        · rw [o2, xx, p5]
          exact congrArg (fun z => (z, 0)) (by omega)
        · rw [o1 e (by omega), xe, o2, xle]
          refine ⟨⟨s1, s2, s3, s4, s5, s6, fun z => (s7 z).1⟩, r0, ⟨r1, ?_⟩, ⟨r2, ?_⟩, ⟨r3, ?_⟩, ⟨r4, q3⟩, ⟨r5, ?_⟩, ⟨r6, ?_⟩, fun v hv => ?_, fun k hk => ⟨z2 k hk, ?_⟩, fun k hk => ⟨z3 k hk, ?_⟩, z4, z5⟩
          · rw [o3 0 (by omega) (by omega) (by omega) (by omega)]; exact k5
          · rw [o3 1 (by omega) (by omega) (by omega) (by omega)]; exact k6
          · rw [o3 2 (by omega) (by omega) (by omega) (by omega)]; exact k7
          · rw [o3 7 (by omega) (by omega) (by omega) (by omega)]; exact k9
          · rw [o3 9 (by omega) (by omega) (by omega) (by omega)]; exact k10
          · obtain ⟨b1', b2', b3', b4', b5'⟩ := z1 v hv
            obtain ⟨l1, l2, l3, l4⟩ := k11 v hv
            rw [o3 4 (by omega) (by omega) (by omega) (by omega), o3 5 (by omega) (by omega) (by omega) (by omega), o3 6 (by omega) (by omega) (by omega) (by omega)]
            exact ⟨b1', ⟨b2', l1⟩, ⟨b3', l2⟩, ⟨b5', l3⟩⟩
          · rw [o3 8 (by omega) (by omega) (by omega) (by omega)]; exact k14 k hk
          · rw [o3 10 (by omega) (by omega) (by omega) (by omega)]; exact k15 k hk
        · rw [o1 0 (by omega), x0, o3 11 (by omega) (by omega) (by omega) (by omega)]
          have f0 : ∀ k, 4 ≤ k → k ≤ 13 → X1.1 0 k 0 = nI 0 := g6
          refine ⟨0, 0, 0, 0, 0, 0, by omega, by omega, by omega, by omega, by omega, by omega, ⟨f0 6 (by omega) (by omega), k12 0 (by omega)⟩, ⟨f0 5 (by omega) (by omega), k12 9 (by omega)⟩, ⟨f0 9 (by omega) (by omega), k12 4 (by omega)⟩, ⟨f0 10 (by omega) (by omega), k12 5 (by omega)⟩, ⟨f0 12 (by omega) (by omega), k12 7 (by omega)⟩, ⟨f0 4 (by omega) (by omega), k12 8 (by omega)⟩, ⟨?_, ?_, ?_, ?_, ?_⟩, fun v hv => ?_, fun v hv => ⟨fun _ => ?_, ?_, ?_⟩, fun k hk => by omega, fun c _ hc => by omega⟩
          · rw [f0 7 (by omega) (by omega), k12 1 (by omega)]
          · rw [f0 13 (by omega) (by omega), k12 2 (by omega)]
          · exact Or.inl (k12 2 (by omega))
          · rw [f0 8 (by omega) (by omega), k12 3 (by omega)]
          · rw [f0 11 (by omega) (by omega), k12 6 (by omega)]
          · rw [g4 v (by omega), x0e, (z1 v hv).2.2.2.1, (k11 v hv).2.2.2]
          · rw [g5 v hv, k13 (18 + v) (by omega) (by omega)]
          · exact Or.inl (g5 v hv)
          · exact Or.inl (k13 (18 + v) (by omega) (by omega))
        · obtain ⟨nx, c, b1', b2', b3', -⟩ := h5
          refine ⟨nx, 0, b1', by omega, ?_, ?_, ?_, fun u hu => by omega⟩
          · rw [o1 28 (by omega), x281]; exact b3'
          · rw [o1 28 (by omega)]; exact x282
          · rw [hZ]; simp (disch := omega) only [ky_sI, kx_sI, upd_s]
        · refine ⟨false, false, ?_, ?_, ?_, fun z => (by cases z), fun z => (by cases z)⟩
          · rw [o1 26 (by omega)]; exact x2611
          · rw [hZ]; simp (disch := omega) only [ky_sI, kx_sI, upd_s, upd_n]; rfl
          · rw [hZ]; simp (disch := omega) only [ky_sI, kx_sI, upd_s, upd_n]; rfl
        · unfold RSd
          rw [o1 26 (by omega), x26 12 (by omega) (by omega) (by omega), o3 12 (by omega) (by omega) (by omega) (by omega), o4 12 (by omega)]
          exact h7
        · rw [o1 26 (by omega)]; exact x261
        · rw [o3 14 (by omega) (by omega) (by omega) (by omega), k4 14 (by omega), kx_sI, upd_s]
        · show Z.1 26 2 0 = Z.1 32 15 0
          rw [o1 26 (by omega), x262, o3 15 (by omega) (by omega) (by omega) (by omega), k4 15 (by omega), ky_sI (by omega), e6.2.1 15 (by omega), d5]
        · rw [o1 29 (by omega)]; exact x294
        · rw [hZ]; simp (disch := omega) only [ky_sI, kx_sI, upd_s]
        · rw [o1 29 (by omega)]; exact x295
        · rw [hZ]; simp (disch := omega) only [ky_sI, kx_sI, upd_s]
