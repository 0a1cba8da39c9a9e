/-! the text: a village -/
theorem vill2 {tx : Nat → Nat} {L p e nv : Nat} {w u : Mem} (he : e = 24 ∨ e = 25) (hv : nv < 8) (h : RS tx L p w) (m : MP tx L p u) (hc : w.1 e 4 0 = nI nv) (hm : u.1 32 20 0 = nI nv) :
    FT L e w u (f5_readVillage e w) (f8_takeVillage u) ∨
    (∃ a b o f q w' u', (a ≤ 9 ∧ 1 ≤ b ∧ b ≤ 9 ∧ o < b ∧ f ≤ 100 ∧ p < q) ∧ f5_readVillage e w = some w' ∧ RS tx L q w' ∧ EC e w w' ∧ w'.2 = w.2 ∧ (w'.1 e 4 0 = nI (nv + 1) ∧ w'.1 e 7 = upd (w.1 e 7) nv (nI a) ∧ w'.1 e 8 = upd (w.1 e 8) nv (nI b) ∧ w'.1 e 9 = upd (w.1 e 9) nv (nI o) ∧ w'.1 e 10 = upd (w.1 e 10) nv (nI f) ∧ ∀ k, k < 4 ∨ k = 5 ∨ k = 6 → w'.1 e k = w.1 e k) ∧ f8_takeVillage u = some (nI 0, u') ∧ MP tx L q u' ∧ EN 16 u u' ∧ (u'.1 32 20 0 = nI (nv + 1) ∧ u'.1 32 21 = upd (u.1 32 21) nv (nI a) ∧ u'.1 32 22 = upd (u.1 32 22) nv (nI b) ∧ u'.1 32 23 = upd (u.1 32 23) nv (nI o) ∧ u'.1 32 24 = upd (u.1 32 24) nv (nI f) ∧ ∀ k, k = 19 ∨ 24 < k → u'.1 32 k = u.1 32 k)) := by
  have he27 : e ≠ 27 := by omega
  have g0 : ¬ (nI nv < 0 ∨ 8 ≤ nv) := fun z => z.elim (nI_pos (by omega)) (by omega)
  have g1 : (nI nv).toNatClampNeg = nv := cl_nI (by omega)
  have g2 : ¬ nI nv < 0 := nI_pos (by omega)
  have g3 : nI nv < 8 := nI_lt (b := 8) hv (by omega)
  have g4 : nI nv + 1 = nI (nv + 1) := nI_add nv 1
  unfold f5_readVillage f8_takeVillage f8_takeVillage_48 f8_takeVillage_75
  rw [hc, hm]
  simp only [bE, g1, if_neg g0, if_neg g2, if_pos g3, g4]
  have m0 := m.k (k := 20) (i := 0) (x := nI (nv + 1)) (by omega)
  rcases num2 (lo := 0) (hi := 9) h m0 (by omega) (by omega) with ⟨c, q, r, w1, u1, ⟨c1, c2, c3⟩, d1, d2, d3, e1, e2, e3⟩ | ⟨a, z1, q1, w1, u1, ⟨y1, y2, y3, y4, y5⟩, d1, d2, d3, -, e1, e2, e3, e4, -⟩
  · left
    have f1 := RF.e (k := 7) (i := nv) (x := r) d3 he
    have f2 := RF.e (k := 8) (i := nv) (x := 0) f1 he
    have f3 := RF.e (k := 9) (i := nv) (x := 0) f2 he
    have f4 := RF.e (k := 10) (i := nv) (x := 0) f3 he
    refine ⟨c, q, _, sI u1 32 21 nv (u1.1 32 17 0), ⟨c1, c2, c3⟩, ?_, ?_, RF.e (k := 4) (i := 0) (x := nI (nv + 1)) f4 he, ?_, ?_, ?_⟩
    · rw [show f5_readNumber 0 9 w = _ from d1, bO, rn_f (f1.n c1 c2), bO, rn_f (f2.n c1 c2), bO, rn_f (f3.n c1 c2), bO]
    · exact (((((EC.o d2).tr EC.s).tr EC.s).tr EC.s).tr EC.s).tr EC.s
    · rw [show f8_into 32 21 8 (nI nv) 0 9 _ = _ from into_ok (k := 21) (N := 8) hv (by omega) e1, bO]
      simp only [if_neg (nI_nle0 c1 c2)]
    · exact ((EN.s (by omega) (by omega)).tr (EN.o e2)).tr (EN.s (by omega) (by omega))
    · rw [ky_sI (by omega)]; exact e3
  have m1 := e3.k (k := 21) (i := nv) (x := u1.1 32 17 0) (by omega)
  rcases num2 (lo := 1) (hi := 9) (d3.e (k := 7) (i := nv) (x := nI a) he) m1 (by omega) (by omega) with ⟨c, q, r, w2, u2, ⟨c1, c2, c3⟩, d4, d5, d6, e5, e6, e7⟩ | ⟨b, z2, q2, w2, u2, ⟨x1, x2, x3, x4, x5⟩, d4, d5, d6, -, e5, e6, e7, e8, -⟩
  · left
    have f2 := RF.e (k := 8) (i := nv) (x := r) d6 he
    have f3 := RF.e (k := 9) (i := nv) (x := 0) f2 he
    have f4 := RF.e (k := 10) (i := nv) (x := 0) f3 he
    refine ⟨c, q, _, sI u2 32 22 nv (u2.1 32 17 0), ⟨c1, c2, c3⟩, ?_, ?_, RF.e (k := 4) (i := 0) (x := nI (nv + 1)) f4 he, ?_, ?_, ?_⟩
    · rw [show f5_readNumber 0 9 w = _ from d1, bO, show f5_readNumber 1 9 _ = _ from d4, bO, rn_f (f2.n c1 c2), bO, rn_f (f3.n c1 c2), bO]
    · exact ((((((EC.o d2).tr EC.s).tr (EC.o d5)).tr EC.s).tr EC.s).tr EC.s).tr EC.s
    · rw [show f8_into 32 21 8 (nI nv) 0 9 _ = _ from into_ok (k := 21) (N := 8) hv (by omega) e1, bO, if_pos (by decide), show f8_into 32 22 8 (nI nv) 1 9 _ = _ from into_ok (k := 22) (N := 8) hv (by omega) e5, bO]
      simp only [if_neg (nI_nle0 c1 c2)]
    · exact ((((EN.s (by omega) (by omega)).tr (EN.o (e2.lo (by omega)))).tr (EN.s (by omega) (by omega))).tr (EN.o e6)).tr (EN.s (by omega) (by omega))
    · rw [ky_sI (by omega)]; exact e7
  have m2 := e7.k (k := 22) (i := nv) (x := u2.1 32 17 0) (by omega)
  have pm : nI b - 1 = nI (b - 1) := pk_sub (a := b) (b := 1) (by omega)
  have pw : (sI w2 e 8 nv (nI b)).1 e 8 nv - 1 = nI (b - 1) := by rw [kx_sI, upd_s, pm]
  have pu : (sI u2 32 22 nv (u2.1 32 17 0)).1 32 22 nv - 1 = nI (b - 1) := by rw [kx_sI, upd_s, e8, pm]
  rcases num2 (lo := 0) (hi := b - 1) (d6.e (k := 8) (i := nv) (x := nI b) he) m2 (by omega) (by omega) with ⟨c, q, r, w3, u3, ⟨c1, c2, c3⟩, d7, d8, d9, e9, e10, e11⟩ | ⟨o, z3, q3, w3, u3, ⟨v1, v2, v3, v4, v5⟩, d7, d8, d9, -, e9, e10, e11, e12, -⟩
  · left
    have f3 := RF.e (k := 9) (i := nv) (x := r) d9 he
    have f4 := RF.e (k := 10) (i := nv) (x := 0) f3 he
    refine ⟨c, q, _, sI u3 32 23 nv (u3.1 32 17 0), ⟨c1, c2, c3⟩, ?_, ?_, RF.e (k := 4) (i := 0) (x := nI (nv + 1)) f4 he, ?_, ?_, ?_⟩
    · rw [show f5_readNumber 0 9 w = _ from d1, bO, show f5_readNumber 1 9 _ = _ from d4, bO, pw, show f5_readNumber 0 (nI (b - 1)) _ = _ from d7, bO, rn_f (f3.n c1 c2), bO]
    · exact (((((((EC.o d2).tr EC.s).tr (EC.o d5)).tr EC.s).tr (EC.o d8)).tr EC.s).tr EC.s).tr EC.s
    · rw [show f8_into 32 21 8 (nI nv) 0 9 _ = _ from into_ok (k := 21) (N := 8) hv (by omega) e1, bO, if_pos (by decide), show f8_into 32 22 8 (nI nv) 1 9 _ = _ from into_ok (k := 22) (N := 8) hv (by omega) e5, bO, if_pos (by decide), pu, show f8_into 32 23 8 (nI nv) 0 (nI (b - 1)) _ = _ from into_ok (k := 23) (N := 8) hv (by omega) e9, bO]
      simp only [if_neg (nI_nle0 c1 c2)]
    · exact ((((((EN.s (by omega) (by omega)).tr (EN.o (e2.lo (by omega)))).tr (EN.s (by omega) (by omega))).tr (EN.o (e6.lo (by omega)))).tr (EN.s (by omega) (by omega))).tr (EN.o e10)).tr (EN.s (by omega) (by omega))
    · rw [ky_sI (by omega)]; exact e11
  have m3 := e11.k (k := 23) (i := nv) (x := u3.1 32 17 0) (by omega)
  rcases num2 (lo := 0) (hi := 100) (d9.e (k := 9) (i := nv) (x := nI o) he) m3 (by omega) (by omega) with ⟨c, q, r, w4, u4, ⟨c1, c2, c3⟩, d10, d11, d12, e13, e14, e15⟩ | ⟨f, z4, q4, w4, u4, ⟨s1, s2, s3, s4, s5⟩, d10, d11, d12, -, e13, e14, e15, e16, -⟩
  · left
    have f4 := RF.e (k := 10) (i := nv) (x := r) d12 he
    refine ⟨c, q, _, sI u4 32 24 nv (u4.1 32 17 0), ⟨c1, c2, c3⟩, ?_, ?_, RF.e (k := 4) (i := 0) (x := nI (nv + 1)) f4 he, ?_, ?_, ?_⟩
    · rw [show f5_readNumber 0 9 w = _ from d1, bO, show f5_readNumber 1 9 _ = _ from d4, bO, pw, show f5_readNumber 0 (nI (b - 1)) _ = _ from d7, bO, show f5_readNumber 0 100 _ = _ from d10, bO]
    · exact ((((((((EC.o d2).tr EC.s).tr (EC.o d5)).tr EC.s).tr (EC.o d8)).tr EC.s).tr (EC.o d11)).tr EC.s).tr EC.s
    · rw [show f8_into 32 21 8 (nI nv) 0 9 _ = _ from into_ok (k := 21) (N := 8) hv (by omega) e1, bO, if_pos (by decide), show f8_into 32 22 8 (nI nv) 1 9 _ = _ from into_ok (k := 22) (N := 8) hv (by omega) e5, bO, if_pos (by decide), pu, show f8_into 32 23 8 (nI nv) 0 (nI (b - 1)) _ = _ from into_ok (k := 23) (N := 8) hv (by omega) e9, bO, if_pos (by decide), show f8_into 32 24 8 (nI nv) 0 100 _ = _ from into_ok (k := 24) (N := 8) hv (by omega) e13, bO]
    · exact ((((((((EN.s (by omega) (by omega)).tr (EN.o (e2.lo (by omega)))).tr (EN.s (by omega) (by omega))).tr (EN.o (e6.lo (by omega)))).tr (EN.s (by omega) (by omega))).tr (EN.o (e10.lo (by omega)))).tr (EN.s (by omega) (by omega))).tr (EN.o e14)).tr (EN.s (by omega) (by omega))
    · rw [ky_sI (by omega)]; exact e15
  right
  refine ⟨a, b, o, f, q4, _, sI u4 32 24 nv (u4.1 32 17 0), ⟨y2, x1, x2, by omega, s2, by omega⟩, ?_, (d12.e (k := 10) (i := nv) (x := nI f) he).e (k := 4) (i := 0) (x := nI (nv + 1)) he, ?_, ?_, ⟨?_, ?_, ?_, ?_, ?_, ?_⟩, ?_, e15.k (k := 24) (i := nv) (x := u4.1 32 17 0) (by omega), ?_, ?_, ?_, ?_, ?_, ?_, ?_⟩
  · rw [show f5_readNumber 0 9 w = _ from d1, bO, show f5_readNumber 1 9 _ = _ from d4, bO, pw, show f5_readNumber 0 (nI (b - 1)) _ = _ from d7, bO, show f5_readNumber 0 100 _ = _ from d10, bO]
  · exact ((((((((EC.o d2).tr EC.s).tr (EC.o d5)).tr EC.s).tr (EC.o d8)).tr EC.s).tr (EC.o d11)).tr EC.s).tr EC.s
  · exact (d11.2.trans (show (sI w3 e 9 nv (nI o)).2 = _ from rfl)).trans ((d8.2.trans (show (sI w2 e 8 nv (nI b)).2 = _ from rfl)).trans ((d5.2.trans (show (sI w1 e 7 nv (nI a)).2 = _ from rfl)).trans d2.2))
  · rw [kx_sI, upd_s]
  · simp (disch := omega) only [ky_sI, kx_sI, d11.1 e he27, d8.1 e he27, d5.1 e he27, d2.1 e he27]
  · simp (disch := omega) only [ky_sI, kx_sI, d11.1 e he27, d8.1 e he27, d5.1 e he27, d2.1 e he27]
  · simp (disch := omega) only [ky_sI, kx_sI, d11.1 e he27, d8.1 e he27, d5.1 e he27, d2.1 e he27]
  · simp (disch := omega) only [ky_sI, kx_sI, d11.1 e he27, d8.1 e he27, d5.1 e he27, d2.1 e he27]
  · intro k hk
    simp (disch := omega) only [ky_sI, d11.1 e he27, d8.1 e he27, d5.1 e he27, d2.1 e he27]
  · rw [show f8_into 32 21 8 (nI nv) 0 9 _ = _ from into_ok (k := 21) (N := 8) hv (by omega) e1, bO, if_pos (by decide), show f8_into 32 22 8 (nI nv) 1 9 _ = _ from into_ok (k := 22) (N := 8) hv (by omega) e5, bO, if_pos (by decide), pu, show f8_into 32 23 8 (nI nv) 0 (nI (b - 1)) _ = _ from into_ok (k := 23) (N := 8) hv (by omega) e9, bO, if_pos (by decide), show f8_into 32 24 8 (nI nv) 0 100 _ = _ from into_ok (k := 24) (N := 8) hv (by omega) e13, bO]
  · exact ((((((((EN.s (by omega) (by omega)).tr (EN.o e2)).tr (EN.s (by omega) (by omega))).tr (EN.o e6)).tr (EN.s (by omega) (by omega))).tr (EN.o e10)).tr (EN.s (by omega) (by omega))).tr (EN.o e14)).tr (EN.s (by omega) (by omega))
  · simp (disch := omega) only [ky_sI, kx_sI, e14.2.1, e10.2.1, e6.2.1, e2.2.1, upd_s]
  · simp (disch := omega) only [ky_sI, kx_sI, e14.2.1, e10.2.1, e6.2.1, e2.2.1, e4]
  · simp (disch := omega) only [ky_sI, kx_sI, e14.2.1, e10.2.1, e6.2.1, e2.2.1, e8]
  · simp (disch := omega) only [ky_sI, kx_sI, e14.2.1, e10.2.1, e6.2.1, e2.2.1, e12]
  · simp (disch := omega) only [ky_sI, kx_sI, e14.2.1, e10.2.1, e6.2.1, e2.2.1, e16]
  · intro k hk
    simp (disch := omega) only [ky_sI, e14.2.1, e10.2.1, e6.2.1, e2.2.1]
