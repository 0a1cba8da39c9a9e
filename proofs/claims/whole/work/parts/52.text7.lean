/-! the text: a clause -/
def CO (tx : Nat → Nat) (L e p : Nat) (w u : Mem) (A : Option Mem) (B : Option (Int32 × Mem)) : Prop := ∃ (nv K Y I F Fo : Nat) (ro pe ob fe fs fg : Nat → Nat) (q : Nat) (w' u' : Mem), p < q ∧ A = some w' ∧ RS tx L q w' ∧ EC e w w' ∧ DS e nv K Y I F Fo ro pe ob fe fs fg w' ∧ B = some (nI 0, u') ∧ MP tx L q u' ∧ EN 16 u u' ∧ MRd nv K Y I F Fo ro pe ob fe fs fg u'
section Txt
variable {e nv K Y I F Fo : Nat} {ro pe ob fe fs fg : Nat → Nat} {w w1 u u1 : Mem} {tx : Nat → Nat} {L p q : Nat}
theorem fin2 (he : e = 24 ∨ e = 25) (hpq : p < q) (h : RS tx L q w1) (ew : EC e w w1) (D : DS e nv K Y I F Fo ro pe ob fe fs fg w1) (m : MP tx L q u1) (eu : EN 16 u u1) (x : Int32) (M : MRd nv K Y I F Fo ro pe ob fe fs fg (sI (sI u1 32 25 0 (u1.1 32 25 0 + if x = 2 then 1 else 0)) 32 27 0 (u1.1 32 27 0 + if x = 3 then 1 else 0))) :
    FT L e w u (f5_readClause_138 e w1) (f8_takeClause_233 x (nI 0) u1) ∨ CO tx L e p w u (f5_readClause_138 e w1) (f8_takeClause_233 x (nI 0) u1) := by
  rw [tail_ok]
  have m2 := (m.k (k := 25) (i := 0) (x := u1.1 32 25 0 + if x = 2 then 1 else 0) (by omega)).k (k := 27) (i := 0) (x := u1.1 32 27 0 + if x = 3 then 1 else 0) (by omega)
  have en : EN 16 u (sI (sI u1 32 25 0 (u1.1 32 25 0 + if x = 2 then 1 else 0)) 32 27 0 (u1.1 32 27 0 + if x = 3 then 1 else 0)) := (eu.tr (EN.s (by omega) (by omega))).tr (EN.s (by omega) (by omega))
  rcases end2 (e := e) h m2 with ⟨c, z, w', u', c1, c2, c3, c4, c5, c6, c7⟩ | ⟨q', w', u', c1, c2, c3, c4, c5, c6, c7⟩
  · exact Or.inl ⟨c, z, w', u', c1, c2, ew.tr c3, c4, c5, (en.lo (by omega)).tr c6, c7⟩
  · exact Or.inr ⟨nv, K, Y, I, F, Fo, ro, pe, ob, fe, fs, fg, q', w', u', by omega, c2, c4, ew.tr (EC.o c3), D.o he c3, c5, c7, en.tr (EN.o c6), M.o c6⟩
theorem finF {c z : Nat} (hc : 0 < c ∧ c < 5 ∧ z ≤ L) (ew : EC e w w1) (r : RF c z w1) (eu : EN 15 u u1) (e15 : u1.1 32 15 0 = nI z) (x : Int32) : FT L e w u (f5_readClause_138 e w1) (f8_takeClause_233 x (nI c) u1) := by
  obtain ⟨u', a1, a2, a3⟩ := tail_f x hc.1 hc.2.1 u1
  exact ⟨c, z, w1, u', hc, end_f hc.1 hc.2.1 r, ew, r, a1, eu.tr a2, by rw [a3]; exact e15⟩
theorem clH (he : e = 24 ∨ e = 25) (h : RS tx L (p + 1) w) (m : MP tx L (p + 1) u) (D : DS e nv 0 Y I F Fo ro pe ob fe fs fg w) (M : MRd nv 0 Y I F Fo ro pe ob fe fs fg u) :
    FT L e w u (bndV (f5_readHermit e w) fun w15 => f5_readClause_138 e w15) (bndO (f8_takeHermit u) fun r13 w12 => f8_takeClause_233 0 r13 w12) ∨ CO tx L e p w u (bndV (f5_readHermit e w) fun w15 => f5_readClause_138 e w15) (bndO (f8_takeHermit u) fun r13 w12 => f8_takeClause_233 0 r13 w12) := by
  rcases herm2 he h m with ⟨c, z, w', u', c1, c2, c3, c4, c5, c6, c7⟩ | ⟨K', Y', I', q, w', u', ⟨a1, a2, a3, a4, a5⟩, b1, b2, b3, b4, ⟨b5, b6, b7, b8, b9⟩, c1, c2, c3, ⟨c4, c5, c6, c7⟩⟩
  · rw [c2, c5, bV, bO]
    exact Or.inl (finF c1 c3 c4 c6 c7 0)
  · rw [b1, c1, bV, bO]
    obtain ⟨⟨x1, x2, x3, x4, x5, x6, x7⟩, ⟨y0, y1, y2, y3, y4, y5, y6⟩, z1, z2, z3, z4, z5⟩ := D
    obtain ⟨-, v1, v2, v3, v4, v5, v6⟩ := M
    obtain ⟨rfl, rfl, rfl⟩ := x7 rfl
    refine fin2 he (by omega) b2 b3 (nv := 0) (K := K') (Y := Y') (I := I') (F := 0) (Fo := 0) (ro := ro) (pe := pe) (ob := ob) (fe := fe) (fs := fs) (fg := fg) ?_ c2 c3 0 ?_
    · refine ⟨⟨by omega, a2, a3, a4, by omega, by omega, fun z => by omega⟩, ⟨by rw [if_neg (by omega)]; exact b5, b6, b7, b8, ?_, ?_, ?_⟩, fun v hv => by omega, fun i hi => by omega, fun i hi => by omega, by rw [b4]; exact z4, by rw [b4]; exact z5⟩
      · rw [b9 4 (by omega)]; exact y4
      · rw [b9 5 (by omega)]; exact y5
      · rw [b9 6 (by omega)]; exact y6
    · have k20 := c7 20 (by omega)
      have k25 := c7 25 (by omega)
      have k27 := c7 27 (by omega)
      refine ⟨⟨?_, ?_, ?_⟩, ?_, fun v hv => by omega, ?_, fun i hi => by omega, ?_, fun i hi => by omega⟩
      · rw [ky_sI (by omega), ky_sI (by omega)]; exact c4
      · rw [ky_sI (by omega), ky_sI (by omega)]; exact c5
      · rw [ky_sI (by omega), ky_sI (by omega)]; exact c6
      · rw [ky_sI (by omega), ky_sI (by omega), k20]; exact v1
      · rw [ky_sI (by omega), kx_sI, upd_s, k25, v3]; rfl
      · rw [kx_sI, upd_s, k27, v5]; rfl
theorem clV (he : e = 24 ∨ e = 25) (hnv : nv < 8) (hK : 0 < K) (h : RS tx L (p + 1) w) (m : MP tx L (p + 1) u) (D : DS e nv K Y I F Fo ro pe ob fe fs fg w) (M : MRd nv K Y I F Fo ro pe ob fe fs fg u) :
    FT L e w u (bndV (f5_readVillage e w) fun w15 => f5_readClause_138 e w15) (bndO (f8_takeVillage u) fun r13 w12 => f8_takeClause_233 1 r13 w12) ∨ CO tx L e p w u (bndV (f5_readVillage e w) fun w15 => f5_readClause_138 e w15) (bndO (f8_takeVillage u) fun r13 w12 => f8_takeClause_233 1 r13 w12) := by
  obtain ⟨⟨x1, x2, x3, x4, x5, x6, x7⟩, ⟨y0, y1, y2, y3, y4, y5, y6⟩, z1, z2, z3, z4, z5⟩ := D
  obtain ⟨⟨v01, v02, v03⟩, v1, v2, v3, v4, v5, v6⟩ := M
  rcases vill2 he hnv h m y4 v1 with ⟨c, z, w', u', c1, c2, c3, c4, c5, c6, c7⟩ | ⟨a, b, o, f, q, w', u', ⟨a1, a2, a3, a4, a5, a6⟩, b1, b2, b3, b4, ⟨b5, b6, b7, b8, b9, b10⟩, c1, c2, c3, ⟨c4, c5, c6, c7, c8, c9⟩⟩
  · rw [c2, c5, bV, bO]
    exact Or.inl (finF c1 c3 c4 c6 c7 1)
  · rw [b1, c1, bV, bO]
    refine fin2 he (by omega) b2 b3 (nv := nv + 1) (K := K) (Y := Y) (I := I) (F := F) (Fo := Fo) (ro := uN ro nv a) (pe := uN pe nv b) (ob := uN ob nv o) (fe := uN fe nv f) (fs := fs) (fg := fg) ?_ c2 c3 1 ?_
    · refine ⟨⟨by omega, x2, x3, x4, x5, x6, fun z => by omega⟩, ⟨?_, ?_, ?_, ?_, b5, ?_, ?_⟩, fun v hv => ?_, z2, z3, by rw [b4]; exact z4, by rw [b4]; exact z5⟩
      · rw [b10 0 (by omega)]; exact y0
      · rw [b10 1 (by omega)]; exact y1
      · rw [b10 2 (by omega)]; exact y2
      · rw [b10 3 (by omega)]; exact y3
      · rw [b10 5 (by omega)]; exact y5
      · rw [b10 6 (by omega)]; exact y6
      · rw [b6, b7, b8, b9]
        by_cases hz : v = nv
        · subst hz
          rw [uN_s, uN_s, uN_s, uN_s, upd_s, upd_s, upd_s, upd_s]
          exact ⟨⟨a1, a2, a3, a5⟩, rfl, rfl, rfl, rfl⟩
        · rw [uN_n hz, uN_n hz, uN_n hz, uN_n hz, upd_n hz, upd_n hz, upd_n hz, upd_n hz]
          exact z1 v (by omega)
    · have k19 := c9 19 (by omega)
      have k25 := c9 25 (by omega)
      have k26 := c9 26 (by omega)
      have k27 := c9 27 (by omega)
      have k28 := c9 28 (by omega)
      refine ⟨⟨?_, ?_, ?_⟩, ?_, fun v hv => ?_, ?_, fun i hi => ?_, ?_, fun i hi => ?_⟩
      · rw [ky_sI (by omega), ky_sI (by omega), k19]; exact v01
      · rw [ky_sI (by omega), ky_sI (by omega), k19]; exact v02
      · rw [ky_sI (by omega), ky_sI (by omega), k19]; exact v03
      · rw [ky_sI (by omega), ky_sI (by omega)]; exact c4
      · simp (disch := omega) only [ky_sI, c5, c6, c7, c8]
        by_cases hz : v = nv
        · subst hz
          rw [uN_s, uN_s, uN_s, uN_s, upd_s, upd_s, upd_s, upd_s]
          exact ⟨rfl, rfl, rfl, rfl⟩
        · rw [uN_n hz, uN_n hz, uN_n hz, uN_n hz, upd_n hz, upd_n hz, upd_n hz, upd_n hz]
          exact v2 v (by omega)
      · rw [ky_sI (by omega), kx_sI, upd_s, k25, v3, if_neg (by decide)]; exact nI_add F 0
      · rw [ky_sI (by omega), ky_sI (by omega), k26]; exact v4 i hi
      · rw [kx_sI, upd_s, k27, v5, if_neg (by decide)]; exact nI_add Fo 0
      · rw [ky_sI (by omega), ky_sI (by omega), k28]; exact v6 i hi
theorem clF (he : e = 24 ∨ e = 25) (hF : F < 8) (hK : 0 < K) (h : RS tx L (p + 1) w) (m : MP tx L (p + 1) u) (D : DS e nv K Y I F Fo ro pe ob fe fs fg w) (M : MRd nv K Y I F Fo ro pe ob fe fs fg u) :
    FT L e w u (bndO (f5_readMarkedDay e 11 16 w) fun r12 w11 => f5_readClause_138 e (sI w11 e 5 0 (nI F + r12))) (bndO (f8_takeDay 32 26 8 (nI F) u) fun r13 w12 => f8_takeClause_233 2 r13 w12) ∨ CO tx L e p w u (bndO (f5_readMarkedDay e 11 16 w) fun r12 w11 => f5_readClause_138 e (sI w11 e 5 0 (nI F + r12))) (bndO (f8_takeDay 32 26 8 (nI F) u) fun r13 w12 => f8_takeClause_233 2 r13 w12) := by
  obtain ⟨⟨x1, x2, x3, x4, x5, x6, x7⟩, ⟨y0, y1, y2, y3, y4, y5, y6⟩, z1, z2, z3, z4, z5⟩ := D
  obtain ⟨⟨v01, v02, v03⟩, v1, v2, v3, v4, v5, v6⟩ := M
  rcases day2 (kk := 11) (km := 26) he (by omega) hF h m z2 z4 v4 with ⟨c, z, w', u', c1, c2, c3, c4, c5, c6, c7⟩ | ⟨t, q, w', u', ⟨a1, a2⟩, b1, b2, b3, b4, b5, b6, c1, c2, c3, c4, c5⟩
  · rw [c2, c5, bO, bO]
    exact Or.inl (finF c1 (c3.tr EC.s) (c4.e he) c6 c7 2)
  · rw [b1, c1, bO, bO]
    refine fin2 he (by omega) (b2.e he) (b3.tr EC.s) (nv := nv) (K := K) (Y := Y) (I := I) (F := F + 1) (Fo := Fo) (ro := ro) (pe := pe) (ob := ob) (fe := fe) (fs := uN fs F t) (fg := fg) ?_ c2 c3 2 ?_
    · refine ⟨⟨x1, x2, x3, x4, by omega, x6, fun z => by omega⟩, ⟨?_, ?_, ?_, ?_, ?_, ?_, ?_⟩, fun v hv => ?_, fun i hi => ?_, z3, b6, ?_⟩
      · rw [ky_sI (by omega), b4]; exact y0
      · rw [ky_sI (by omega), b4]; exact y1
      · rw [ky_sI (by omega), b4]; exact y2
      · rw [ky_sI (by omega), b4]; exact y3
      · rw [ky_sI (by omega), b4]; exact y4
      · rw [kx_sI, upd_s]; exact nI_add F 1
      · rw [ky_sI (by omega), b4]; exact y6
      · rw [ky_sI (by omega), ky_sI (by omega), ky_sI (by omega), ky_sI (by omega), b4]; exact z1 v hv
      · by_cases hz : i = F
        · subst hz; rw [uN_s]; exact a1
        · rw [uN_n hz]; exact z2 i (by omega)
      · rw [rd_sI2, b5 12 (by omega)]; exact z5
    · have k19 := c4 19 (by omega) (by omega)
      have k20 := c4 20 (by omega) (by omega)
      have k21 := c4 21 (by omega) (by omega)
      have k22 := c4 22 (by omega) (by omega)
      have k23 := c4 23 (by omega) (by omega)
      have k24 := c4 24 (by omega) (by omega)
      have k25 := c4 25 (by omega) (by omega)
      have k27 := c4 27 (by omega) (by omega)
      have k28 := c4 28 (by omega) (by omega)
      refine ⟨⟨?_, ?_, ?_⟩, ?_, fun v hv => ?_, ?_, fun i hi => ?_, ?_, fun i hi => ?_⟩
      · rw [ky_sI (by omega), ky_sI (by omega), k19]; exact v01
      · rw [ky_sI (by omega), ky_sI (by omega), k19]; exact v02
      · rw [ky_sI (by omega), ky_sI (by omega), k19]; exact v03
      · rw [ky_sI (by omega), ky_sI (by omega), k20]; exact v1
      · simp (disch := omega) only [ky_sI, k21, k22, k23, k24]
        exact v2 v hv
      · rw [ky_sI (by omega), kx_sI, upd_s, k25, v3, if_pos rfl]; exact nI_add F 1
      · rw [ky_sI (by omega), ky_sI (by omega), c5]
        by_cases hz : i = F
        · subst hz; rw [uN_s, upd_s]
        · rw [uN_n hz, upd_n hz]; exact v4 i (by omega)
      · rw [kx_sI, upd_s, k27, v5, if_neg (by decide)]; exact nI_add Fo 0
      · rw [ky_sI (by omega), ky_sI (by omega), k28]; exact v6 i hi
theorem clG (he : e = 24 ∨ e = 25) (hF : Fo < 8) (hK : 0 < K) (h : RS tx L (p + 1) w) (m : MP tx L (p + 1) u) (D : DS e nv K Y I F Fo ro pe ob fe fs fg w) (M : MRd nv K Y I F Fo ro pe ob fe fs fg u) :
    FT L e w u (bndO (f5_readMarkedDay e 12 16 w) fun r12 w11 => f5_readClause_138 e (sI w11 e 6 0 (nI Fo + r12))) (bndO (f8_takeDay 32 28 8 (nI Fo) u) fun r13 w12 => f8_takeClause_233 3 r13 w12) ∨ CO tx L e p w u (bndO (f5_readMarkedDay e 12 16 w) fun r12 w11 => f5_readClause_138 e (sI w11 e 6 0 (nI Fo + r12))) (bndO (f8_takeDay 32 28 8 (nI Fo) u) fun r13 w12 => f8_takeClause_233 3 r13 w12) := by
  obtain ⟨⟨x1, x2, x3, x4, x5, x6, x7⟩, ⟨y0, y1, y2, y3, y4, y5, y6⟩, z1, z2, z3, z4, z5⟩ := D
  obtain ⟨⟨v01, v02, v03⟩, v1, v2, v3, v4, v5, v6⟩ := M
  rcases day2 (kk := 12) (km := 28) he (by omega) hF h m z3 z5 v6 with ⟨c, z, w', u', c1, c2, c3, c4, c5, c6, c7⟩ | ⟨t, q, w', u', ⟨a1, a2⟩, b1, b2, b3, b4, b5, b6, c1, c2, c3, c4, c5⟩
  · rw [c2, c5, bO, bO]
    exact Or.inl (finF c1 (c3.tr EC.s) (c4.e he) c6 c7 3)
  · rw [b1, c1, bO, bO]
    refine fin2 he (by omega) (b2.e he) (b3.tr EC.s) (nv := nv) (K := K) (Y := Y) (I := I) (F := F) (Fo := Fo + 1) (ro := ro) (pe := pe) (ob := ob) (fe := fe) (fs := fs) (fg := uN fg Fo t) ?_ c2 c3 3 ?_
    · refine ⟨⟨x1, x2, x3, x4, x5, by omega, fun z => by omega⟩, ⟨?_, ?_, ?_, ?_, ?_, ?_, ?_⟩, fun v hv => ?_, z2, fun i hi => ?_, ?_, b6⟩
      · rw [ky_sI (by omega), b4]; exact y0
      · rw [ky_sI (by omega), b4]; exact y1
      · rw [ky_sI (by omega), b4]; exact y2
      · rw [ky_sI (by omega), b4]; exact y3
      · rw [ky_sI (by omega), b4]; exact y4
      · rw [ky_sI (by omega), b4]; exact y5
      · rw [kx_sI, upd_s]; exact nI_add Fo 1
      · rw [ky_sI (by omega), ky_sI (by omega), ky_sI (by omega), ky_sI (by omega), b4]; exact z1 v hv
      · by_cases hz : i = Fo
        · subst hz; rw [uN_s]; exact a1
        · rw [uN_n hz]; exact z3 i (by omega)
      · rw [rd_sI2, b5 11 (by omega)]; exact z4
    · have k19 := c4 19 (by omega) (by omega)
      have k20 := c4 20 (by omega) (by omega)
      have k21 := c4 21 (by omega) (by omega)
      have k22 := c4 22 (by omega) (by omega)
      have k23 := c4 23 (by omega) (by omega)
      have k24 := c4 24 (by omega) (by omega)
      have k25 := c4 25 (by omega) (by omega)
      have k26 := c4 26 (by omega) (by omega)
      have k27 := c4 27 (by omega) (by omega)
      refine ⟨⟨?_, ?_, ?_⟩, ?_, fun v hv => ?_, ?_, fun i hi => ?_, ?_, fun i hi => ?_⟩
      · rw [ky_sI (by omega), ky_sI (by omega), k19]; exact v01
      · rw [ky_sI (by omega), ky_sI (by omega), k19]; exact v02
      · rw [ky_sI (by omega), ky_sI (by omega), k19]; exact v03
      · rw [ky_sI (by omega), ky_sI (by omega), k20]; exact v1
      · simp (disch := omega) only [ky_sI, k21, k22, k23, k24]
        exact v2 v hv
      · rw [ky_sI (by omega), kx_sI, upd_s, k25, v3, if_neg (by decide)]; exact nI_add F 0
      · rw [ky_sI (by omega), ky_sI (by omega), k26]; exact v4 i hi
      · rw [kx_sI, upd_s, k27, v5, if_pos rfl]; exact nI_add Fo 1
      · rw [ky_sI (by omega), ky_sI (by omega), c5]
        by_cases hz : i = Fo
        · subst hz; rw [uN_s, upd_s]
        · rw [uN_n hz, upd_n hz]; exact v6 i (by omega)
end Txt
