/-! what holds between the class's memory and the reference's, between two calls -/
/-- a Days object D against a row N of the reference -/
def RD (qh nv B : Nat) (D : Nat → Nat → Int32) (N : Nat → Int32) : Prop :=
  ∃ dy wt fa em sh st : Nat, dy ≤ B ∧ wt ≤ 9 ∧ fa ≤ dy ∧ em ≤ dy ∧ sh ≤ 16 * B ∧ st < 256 ∧
    (D 6 0 = nI dy ∧ N 0 = nI dy) ∧ (D 5 0 = nI wt ∧ N 9 = nI wt) ∧ (D 9 0 = nI fa ∧ N 4 = nI fa) ∧ (D 10 0 = nI em ∧ N 5 = nI em) ∧ (D 12 0 = nI sh ∧ N 7 = nI sh) ∧ (D 4 0 = nI st ∧ N 8 = nI st) ∧
    (D 7 0 = N 1 ∧ D 13 0 = N 2 ∧ (N 2 = 0 ∨ N 2 = 1) ∧ D 8 0 = N 3 ∧ D 11 0 = N 6) ∧
    (∀ v, v < nv → D 0 v = N (10 + v)) ∧ (∀ v, v < 8 → (v < nv → D 1 v = N (18 + v)) ∧ (D 1 v = -1 ∨ ∃ l, l < dy ∧ D 1 v = nI l) ∧ (N (18 + v) = -1 ∨ ∃ l, l < dy + 1 ∧ N (18 + v) = nI l)) ∧
    (∀ k, k < wt → D 2 k = N (26 + k) ∧ ∃ v, v < nv ∧ N (26 + k) = nI v) ∧ (∀ c, c < 60 → c < dy → c < qh → D 3 c = N (43 + c))
/-- a day among the first n of a row -/
def anyB : Nat → (Nat → Nat) → Nat → Bool
  | 0, _, _ => false
  | n + 1, f, t => anyB n f t || decide (f n = t)
/-- the rock -/
def RG (nv K Y I F Fo : Nat) (ro pe fe fs fg : Nat → Nat) (G : Nat → Nat → Int32) (GL : Nat → Nat → Int64) (M : Nat → Nat → Int32) : Prop :=
  (nv ≤ 8 ∧ K ≤ 9 ∧ Y ≤ 30 ∧ I ≤ 9 ∧ F ≤ 8 ∧ Fo ≤ 8 ∧ (K = 0 → nv = 0)) ∧
  (G 0 0 = (if K = 0 then 0 else 1)) ∧ (G 1 0 = nI K ∧ M 0 0 = nI K) ∧ (G 2 0 = nI Y ∧ M 1 0 = nI Y) ∧ (G 3 0 = nI I ∧ M 2 0 = nI I) ∧ (G 4 0 = nI nv ∧ M 3 0 = nI nv) ∧ (G 5 0 = nI F ∧ M 7 0 = nI F) ∧ (G 6 0 = nI Fo ∧ M 9 0 = nI Fo) ∧
  (∀ v, v < nv → (ro v ≤ 9 ∧ 1 ≤ pe v ∧ pe v ≤ 9 ∧ fe v ≤ 100) ∧ (G 7 v = nI (ro v) ∧ M 4 v = nI (ro v)) ∧ (G 8 v = nI (pe v) ∧ M 5 v = nI (pe v)) ∧ (G 10 v = nI (fe v) ∧ M 6 v = nI (fe v))) ∧
  (∀ k, k < F → fs k < 1000 ∧ M 8 k = nI (fs k)) ∧ (∀ k, k < Fo → fg k < 1000 ∧ M 10 k = nI (fg k)) ∧
  (∀ c j, c < 16 → j < 64 → (GL 11 c).toBitVec.getLsbD j = anyB F fs (64 * c + j)) ∧ (∀ c j, c < 16 → j < 64 → (GL 12 c).toBitVec.getLsbD j = anyB Fo fg (64 * c + j))
/-- what can be undone: a ring against a row of rows -/
def RPa (nv B : Nat) (w : Mem) : Prop := ∃ nx c : Nat, nx < 20 ∧ c ≤ 20 ∧ w.1 28 1 0 = nI nx ∧ w.1 28 2 0 = nI c ∧ w.1 32 29 0 = nI c ∧ ∀ u, u < c → RD 60 nv B (w.1 (4 + (nx + 20 - c + u) % 20)) (fun k => w.1 32 30 (103 * u + k))
/-- images -/
def RIm (nv B : Nat) (w : Mem) : Prop := ∃ b0 b1 : Bool, w.1 26 11 0 = nI ((if b0 then 1 else 0) + (if b1 then 2 else 0)) ∧ w.1 32 44 0 = (if b0 then 1 else 0) ∧ w.1 32 44 1 = (if b1 then 1 else 0) ∧
  (b0 = true → RD 60 nv B (w.1 2) (fun k => w.1 32 43 k) ∧ w.1 26 10 0 = w.1 32 43 103 ∧ ¬ w.1 32 43 103 < 0) ∧ (b1 = true → RD 60 nv B (w.1 3) (fun k => w.1 32 43 (104 + k)) ∧ w.1 26 10 1 = w.1 32 43 207 ∧ ¬ w.1 32 43 207 < 0)
def RSd (w : Mem) : Prop := w.1 26 12 0 = w.1 32 12 0 ∧ ¬ w.1 32 12 0 < 0
def RTx (n : Nat) (w : Mem) : Prop := ∃ L : Nat, L ≤ n ∧ w.1 26 1 0 = nI L ∧ w.1 32 14 0 = nI L ∧ ∀ i, i < L → ∃ c : Nat, c < 256 ∧ w.1 26 0 i = nI c ∧ w.1 32 13 i = nI c
def RFa (w : Mem) : Prop := w.1 26 2 0 = w.1 32 15 0
def RNo (w : Mem) : Prop := ∃ s b : Nat, s ≤ 10 ∧ b ≤ 15 ∧ w.1 29 4 0 = nI s ∧ w.1 32 37 0 = nI s ∧ w.1 29 5 0 = nI b ∧ w.1 32 40 0 = nI b ∧
  (∀ i, i < s → ∃ t h : Nat, t < 100 ∧ h < 3 ∧ w.1 29 0 i = nI t ∧ w.1 32 38 i = nI t ∧ w.1 29 1 i = nI h ∧ w.1 32 39 i = nI h) ∧
  (∀ i, i < b → ∃ t : Nat, t < 10000 ∧ w.1 29 2 i = nI t ∧ w.1 32 41 i = nI t ∧ w.1 29 3 i = w.1 32 42 i)
def RCo (g nv K Y I F Fo : Nat) (ro pe fe fs fg : Nat → Nat) (n : Nat) (w : Mem) : Prop :=
  (g = 24 ∨ g = 25) ∧ (w.2.2 26 4 = (g, 0) ∧ w.2.2 26 5 = (49 - g, 0)) ∧ RG nv K Y I F Fo ro pe fe fs fg (w.1 g) (w.2.1 g) (w.1 32) ∧ RD 60 nv (99 * n) (w.1 0) (w.1 32 11) ∧ RPa nv (99 * n) w ∧ RIm nv (99 * n) w ∧ RSd w
def Co (n : Nat) (w : Mem) : Prop := ∃ (g nv K Y I F Fo : Nat) (ro pe fe fs fg : Nat → Nat), RCo g nv K Y I F Fo ro pe fe fs fg n w
def Rel (n : Nat) (w : Mem) : Prop := Co n w ∧ RTx n w ∧ RFa w ∧ RNo w
/-- growing bounds -/
theorem RD.mono {qh nv B B' : Nat} {D : Nat → Nat → Int32} {N : Nat → Int32} (h : RD qh nv B D N) (hB : B ≤ B') : RD qh nv B' D N := by
  obtain ⟨dy, wt, fa, em, sh, st, h1, h2, h3, h4, h5, h6⟩ := h
  exact ⟨dy, wt, fa, em, sh, st, Nat.le_trans h1 hB, h2, h3, h4, by omega, h6⟩
theorem RG.c {nv K Y I F Fo : Nat} {ro pe fe fs fg : Nat → Nat} {G : Nat → Nat → Int32} {GL : Nat → Nat → Int64} {M M' : Nat → Nat → Int32} (h : RG nv K Y I F Fo ro pe fe fs fg G GL M) (e : ∀ k, k ≤ 10 → M' k = M k) : RG nv K Y I F Fo ro pe fe fs fg G GL M' := by
  unfold RG at h ⊢
  simp only [e 0 (by omega), e 1 (by omega), e 2 (by omega), e 3 (by omega), e 4 (by omega), e 5 (by omega), e 6 (by omega), e 7 (by omega), e 8 (by omega), e 9 (by omega), e 10 (by omega)]
  exact h
/-- what the core looks at -/
def SameCo (g : Nat) (w w' : Mem) : Prop := (∀ d, d < 24 → d ≠ 1 → w'.1 d = w.1 d) ∧ (w'.1 g = w.1 g ∧ w'.2.1 g = w.2.1 g) ∧ (w'.2.2 26 4 = w.2.2 26 4 ∧ w'.2.2 26 5 = w.2.2 26 5) ∧ (w'.1 26 10 = w.1 26 10 ∧ w'.1 26 11 = w.1 26 11 ∧ w'.1 26 12 = w.1 26 12) ∧ (w'.1 28 1 = w.1 28 1 ∧ w'.1 28 2 = w.1 28 2) ∧ (∀ k, k ≤ 12 ∨ k = 29 ∨ k = 30 ∨ k = 43 ∨ k = 44 → w'.1 32 k = w.1 32 k)
theorem RCo.same {g nv K Y I F Fo : Nat} {ro pe fe fs fg : Nat → Nat} {n m : Nat} {w w' : Mem} (h : RCo g nv K Y I F Fo ro pe fe fs fg n w) (s : SameCo g w w') (hm : n ≤ m) : RCo g nv K Y I F Fo ro pe fe fs fg m w' := by
  obtain ⟨h1, h2, h3, h4, h5, h6, h7⟩ := h
  obtain ⟨s1, ⟨s2, s2'⟩, ⟨s3, s3'⟩, ⟨s4, s5, s6⟩, ⟨s7, s8⟩, s9⟩ := s
  have hB : 99 * n ≤ 99 * m := by omega
  refine ⟨h1, ⟨by rw [s3]; exact h2.1, by rw [s3']; exact h2.2⟩, ?_, ?_, ?_, ?_, ?_⟩
  · rw [s2, s2']
    exact h3.c (fun k hk => s9 k (by omega))
  · rw [s1 0 (by omega) (by omega), s9 11 (by omega)]
    exact h4.mono hB
  · obtain ⟨nx, c, a1, a2, a3, a4, a5, a6⟩ := h5
    refine ⟨nx, c, a1, a2, by rw [s7]; exact a3, by rw [s8]; exact a4, by rw [s9 29 (by omega)]; exact a5, fun u hu => ?_⟩
    rw [s1 _ (by omega) (by omega), s9 30 (by omega)]
    exact (a6 u hu).mono hB
  · obtain ⟨b0, b1, a1, a2, a3, a4, a5⟩ := h6
    refine ⟨b0, b1, by rw [s5]; exact a1, by rw [s9 44 (by omega)]; exact a2, by rw [s9 44 (by omega)]; exact a3, fun hb => ?_, fun hb => ?_⟩
    · rw [s1 2 (by omega) (by omega), s9 43 (by omega), s4]
      exact ⟨(a4 hb).1.mono hB, (a4 hb).2⟩
    · rw [s1 3 (by omega) (by omega), s9 43 (by omega), s4]
      exact ⟨(a5 hb).1.mono hB, (a5 hb).2⟩
  · unfold RSd
    rw [s6, s9 12 (by omega)]
    exact h7
theorem RTx.same {n m : Nat} {w w' : Mem} (h : RTx n w) (e1 : w'.1 26 0 = w.1 26 0) (e2 : w'.1 26 1 = w.1 26 1) (e3 : w'.1 32 13 = w.1 32 13) (e4 : w'.1 32 14 = w.1 32 14) (hm : n ≤ m) : RTx m w' := by
  obtain ⟨L, h1, h2⟩ := h
  unfold RTx
  rw [e1, e2, e3, e4]
  exact ⟨L, Nat.le_trans h1 hm, h2⟩
theorem RNo.same {w w' : Mem} (h : RNo w) (e1 : ∀ k, k ≤ 5 → w'.1 29 k = w.1 29 k) (e2 : ∀ k, 37 ≤ k → k ≤ 42 → w'.1 32 k = w.1 32 k) : RNo w' := by
  unfold RNo at h ⊢
  rw [e1 0 (by omega), e1 1 (by omega), e1 2 (by omega), e1 3 (by omega), e1 4 (by omega), e1 5 (by omega), e2 37 (by omega) (by omega), e2 38 (by omega) (by omega), e2 39 (by omega) (by omega), e2 40 (by omega) (by omega), e2 41 (by omega) (by omega), e2 42 (by omega) (by omega)]
  exact h
theorem Rel.next {n m : Nat} {w : Mem} (h : Rel n w) (hm : n ≤ m) : Rel m w := by
  obtain ⟨⟨g, nv, K, Y, I, F, Fo, ro, pe, fe, fs, fg, h1⟩, h2, h3, h4⟩ := h
  exact ⟨⟨g, nv, K, Y, I, F, Fo, ro, pe, fe, fs, fg, h1.same ⟨fun _ _ _ => rfl, ⟨rfl, rfl⟩, ⟨rfl, rfl⟩, ⟨rfl, rfl, rfl⟩, ⟨rfl, rfl⟩, fun _ _ => rfl⟩ hm⟩, h2.same rfl rfl rfl rfl hm, h3, h4⟩
theorem rk_g {g : Nat} {q : Nat × Nat} (h : g = 24 ∨ g = 25) (hq : q = (g, 0)) : rk q = some g := by
  subst hq
  rcases h with rfl | rfl <;> rfl
theorem RPa.same {nv B B' : Nat} {w w' : Mem} (h : RPa nv B w) (e1 : ∀ d, 4 ≤ d → d < 24 → w'.1 d = w.1 d) (e2 : w'.1 28 1 = w.1 28 1) (e3 : w'.1 28 2 = w.1 28 2) (e4 : w'.1 32 29 = w.1 32 29) (e5 : w'.1 32 30 = w.1 32 30) (hB : B ≤ B') : RPa nv B' w' := by
  obtain ⟨nx, c, a1, a2, a3, a4, a5, a6⟩ := h
  refine ⟨nx, c, a1, a2, by rw [e2]; exact a3, by rw [e3]; exact a4, by rw [e4]; exact a5, fun u hu => ?_⟩
  rw [e1 _ (by omega) (by omega), e5]
  exact (a6 u hu).mono hB
theorem RIm.same {nv B B' : Nat} {w w' : Mem} (h : RIm nv B w) (e1 : w'.1 2 = w.1 2) (e2 : w'.1 3 = w.1 3) (e3 : w'.1 26 10 = w.1 26 10) (e4 : w'.1 26 11 = w.1 26 11) (e5 : w'.1 32 43 = w.1 32 43) (e6 : w'.1 32 44 = w.1 32 44) (hB : B ≤ B') : RIm nv B' w' := by
  obtain ⟨b0, b1, a1, a2, a3, a4, a5⟩ := h
  refine ⟨b0, b1, by rw [e4]; exact a1, by rw [e6]; exact a2, by rw [e6]; exact a3, fun hb => ?_, fun hb => ?_⟩
  · rw [e1, e5, e3]
    exact ⟨(a4 hb).1.mono hB, (a4 hb).2⟩
  · rw [e2, e5, e3]
    exact ⟨(a5 hb).1.mono hB, (a5 hb).2⟩
/-- what a call owes: the same answer, and the relation again -/
def Same (n : Nat) (w : Mem) (f7 f8 : Mem → Option (Int32 × Mem)) : Prop := ∃ r w1 w2, f7 w = some (r, w1) ∧ f8 w1 = some (r, w2) ∧ Rel (n + 1) w2
