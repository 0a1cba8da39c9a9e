/-! the text: a number on both sides, a hermit -/
def EC (e : Nat) (w w' : Mem) : Prop := (∀ d, d ≠ 27 → d ≠ e → w'.1 d = w.1 d) ∧ (∀ d, d ≠ e → w'.2.1 d = w.2.1 d) ∧ w'.2.2 = w.2.2
def EN (l : Nat) (u u' : Mem) : Prop := (∀ d, d ≠ 32 → u'.1 d = u.1 d) ∧ (∀ k, k < l ∨ 28 < k → u'.1 32 k = u.1 32 k) ∧ u'.2 = u.2
theorem EC.tr {e : Nat} {u v w : Mem} (h : EC e u v) (h' : EC e v w) : EC e u w := ⟨fun d hd he => (h'.1 d hd he).trans (h.1 d hd he), fun d hd => (h'.2.1 d hd).trans (h.2.1 d hd), h'.2.2.trans h.2.2⟩
theorem EC.o {e : Nat} {w w' : Mem} (h : E27 w w') : EC e w w' := ⟨fun d hd _ => h.1 d hd, fun d _ => by rw [h.2], by rw [h.2]⟩
theorem EC.s {e k i : Nat} {x : Int32} {w : Mem} : EC e w (sI w e k i x) := ⟨fun d _ he => ob_sI he, fun d _ => rfl, rfl⟩
theorem EC.s27 {e k i : Nat} {x : Int32} {w : Mem} : EC e w (sI w 27 k i x) := ⟨fun d h _ => ob_sI h, fun d _ => rfl, rfl⟩
theorem EC.r {e : Nat} (w : Mem) : EC e w w := ⟨fun _ _ _ => rfl, fun _ _ => rfl, rfl⟩
theorem EN.lo {l m : Nat} {u v : Mem} (h : EN l u v) (hl : m ≤ l) : EN m u v := ⟨h.1, fun k hk => h.2.1 k (by omega), h.2.2⟩
theorem EN.tr {l : Nat} {u v w : Mem} (h : EN l u v) (h' : EN l v w) : EN l u w := ⟨fun d hd => (h'.1 d hd).trans (h.1 d hd), fun k hk => (h'.2.1 k hk).trans (h.2.1 k hk), h'.2.2.trans h.2.2⟩
theorem EN.o {l : Nat} {u v : Mem} (h : EM l u v) : EN l u v := ⟨h.1, fun k hk => h.2.1 k (by omega), h.2.2⟩
theorem EN.s {l : Nat} {u : Mem} {k i : Nat} {x : Int32} (h : l ≤ k) (h2 : k ≤ 28) : EN l u (sI u 32 k i x) := ⟨fun d hd => ob_sI hd, fun j hj => ky_sI (by omega), rfl⟩
theorem EN.r {l : Nat} (u : Mem) : EN l u u := ⟨fun _ _ => rfl, fun _ _ => rfl, rfl⟩
theorem RS.e {tx : Nat → Nat} {L p e k i : Nat} {x : Int32} {w : Mem} (h : RS tx L p w) (he : e = 24 ∨ e = 25) : RS tx L p (sI w e k i x) := by
  obtain ⟨⟨h1, h2⟩, h3, h4, h5, h6, h7⟩ := h
  exact ⟨⟨h1, h2⟩, h3, by rw [ob_sI (by omega)]; exact h4, by rw [ob_sI (by omega)]; exact h5, by rw [ob_sI (by omega)]; exact h6, fun i hi => by rw [ob_sI (by omega)]; exact h7 i hi⟩
theorem RF.e {c q e k i : Nat} {x : Int32} {w : Mem} (h : RF c q w) (he : e = 24 ∨ e = 25) : RF c q (sI w e k i x) := ⟨by rw [ob_sI (by omega)]; exact h.1, by rw [ob_sI (by omega)]; exact h.2⟩
theorem RF.n {c q : Nat} {w : Mem} (h : RF c q w) (hc : 0 < c) (hc2 : c < 5) : ¬ w.1 27 2 0 = 0 := by
  rw [h.1]
  exact fun z => absurd ((nI_eq (b := 0) (by omega) (by omega)).mp z) (by omega)
/-- one number: a fault on both sides, or the same number -/
theorem num2 {tx : Nat → Nat} {L p lo hi : Nat} {w u : Mem} (h : RS tx L p w) (m : MP tx L p u) (hlo : lo < 1000) (hhi : hi < 1000) :
    (∃ c q r w' u', (0 < c ∧ c < 5 ∧ q ≤ L) ∧ f5_readNumber (nI lo) (nI hi) w = some (r, w') ∧ E27 w w' ∧ RF c q w' ∧ f8_takeNumber (nI lo) (nI hi) u = some (nI c, u') ∧ EM 15 u u' ∧ u'.1 32 15 0 = nI q) ∨
    (∃ v z q w' u', (lo ≤ v ∧ v ≤ hi ∧ p < q ∧ q ≤ L ∧ z ≤ L) ∧ f5_readNumber (nI lo) (nI hi) w = some (nI v, w') ∧ E27 w w' ∧ RS tx L q w' ∧ w'.1 27 3 0 = nI z ∧ f8_takeNumber (nI lo) (nI hi) u = some (nI 0, u') ∧ EM 16 u u' ∧ MP tx L q u' ∧ u'.1 32 17 0 = nI v ∧ u'.1 32 18 0 = nI z) := by
  obtain ⟨r, w', a1, a2, a3, a4⟩ := rn_ok h hlo hhi
  obtain ⟨u', b1, b2, b3, b4⟩ := tn_ok m hlo hhi
  have hn := n_le (tx := tx) h.1.2
  by_cases hz : nb tx L p lo hi = 0
  · right
    obtain ⟨a5, a6, a7⟩ := a3 hz
    obtain ⟨b5, b6, b7, b8⟩ := b3 hz
    rw [hz] at b1
    subst a5
    refine ⟨nvl tx L p, n1 tx L p, n2 tx L p, w', u', ⟨?_, ?_, ?_, by omega, by omega⟩, a1, a2, a6, a7, b1, b8, b5, b6, b7⟩
    all_goals
      unfold nb at hz
      split at hz
      · cases hz
      · split at hz
        · cases hz
        · omega
  · left
    refine ⟨nb tx L p lo hi, n1 tx L p, r, w', u', ⟨by omega, ?_, by omega⟩, a1, a2, a4 hz, b1, b2, b4 hz⟩
    unfold nb
    split
    · omega
    · split <;> omega
theorem nI_nle0 {c : Nat} (h : 0 < c) (h2 : c < 5) : ¬ nI c ≤ 0 := nI_ge (a := 0) h (by omega)
theorem nI_nz {c : Nat} (h : 0 < c) (h2 : c < 5) : ¬ nI c = 0 := fun z => absurd ((nI_eq (b := 0) (by omega) (by omega)).mp z) (by omega)
theorem into_ok {k N j : Nat} {a b r : Int32} {u u' : Mem} (hj : j < N) (hN : N < 10) (h : f8_takeNumber a b u = some (r, u')) : f8_into 32 k N (nI j) a b u = some (r, sI u' 32 k j (u'.1 32 17 0)) := by
  unfold f8_into
  rw [h, bO, if_neg (nI_in hj (by omega)), cl_nI (by omega)]
  simp only [bE]
/-- a fault on both sides -/
def FT (L e : Nat) (w u : Mem) (A : Option Mem) (B : Option (Int32 × Mem)) : Prop := ∃ c q w' u', (0 < c ∧ c < 5 ∧ q ≤ L) ∧ A = some w' ∧ EC e w w' ∧ RF c q w' ∧ B = some (nI c, u') ∧ EN 15 u u' ∧ u'.1 32 15 0 = nI q
theorem herm2 {tx : Nat → Nat} {L p e : Nat} {w u : Mem} (he : e = 24 ∨ e = 25) (h : RS tx L p w) (m : MP tx L p u) :
    FT L e w u (f5_readHermit e w) (f8_takeHermit u) ∨
    (∃ K Y I q w' u', (1 ≤ K ∧ K ≤ 9 ∧ Y ≤ 30 ∧ I ≤ 9 ∧ p < q) ∧ f5_readHermit e w = some w' ∧ RS tx L q w' ∧ EC e w w' ∧ w'.2 = w.2 ∧ (w'.1 e 0 0 = nI 1 ∧ w'.1 e 1 0 = nI K ∧ w'.1 e 2 0 = nI Y ∧ w'.1 e 3 0 = nI I ∧ ∀ k, 4 ≤ k → w'.1 e k = w.1 e k) ∧ f8_takeHermit u = some (nI 0, u') ∧ MP tx L q u' ∧ EN 16 u u' ∧ (u'.1 32 19 0 = nI K ∧ u'.1 32 19 1 = nI Y ∧ u'.1 32 19 2 = nI I ∧ ∀ k, 19 < k → u'.1 32 k = u.1 32 k)) := by
  have he27 : e ≠ 27 := by omega
  unfold f5_readHermit f8_takeHermit f8_takeHermit_33
  have ha := h.e (k := 0) (i := 0) (x := nI 1) he
  rcases num2 (lo := 1) (hi := 9) ha m (by omega) (by omega) with ⟨c, q, r, w1, u1, ⟨c1, c2, c3⟩, d1, d2, d3, e1, e2, e3⟩ | ⟨K, z1, q1, w1, u1, ⟨y1, y2, y3, y4, y5⟩, d1, d2, d3, -, e1, e2, e3, e4, -⟩
  · left
    have f1 := RF.e (k := 1) (i := 0) (x := r) d3 he
    have f2 := RF.e (k := 2) (i := 0) (x := 0) f1 he
    refine ⟨c, q, _, sI u1 32 19 0 (u1.1 32 17 0), ⟨c1, c2, c3⟩, ?_, ?_, RF.e (k := 3) (i := 0) (x := 0) f2 he, ?_, ?_, ?_⟩
    · rw [bE, show f5_readNumber 1 9 (sI w e 0 0 1) = _ from d1, bO, bE, rn_f (f1.n c1 c2), bO, bE, rn_f (f2.n c1 c2), bO, bE]
    · exact ((((EC.s).tr (EC.o d2)).tr EC.s).tr EC.s).tr EC.s
    · rw [show f8_into 32 19 3 0 1 9 u = _ from into_ok (k := 19) (N := 3) (j := 0) (by omega) (by omega) e1, bO, if_neg (nI_nle0 c1 c2), if_neg (nI_nle0 c1 c2)]
    · exact (EN.o e2).tr (EN.s (by omega) (by omega))
    · rw [ky_sI (by omega)]; exact e3
  have m1 := e3.k (k := 19) (i := 0) (x := u1.1 32 17 0) (by omega)
  rcases num2 (lo := 0) (hi := 30) (d3.e (k := 1) (i := 0) (x := nI K) he) m1 (by omega) (by omega) with ⟨c, q, r, w2, u2, ⟨c1, c2, c3⟩, d4, d5, d6, e5, e6, e7⟩ | ⟨Y, z2, q2, w2, u2, ⟨x1, x2, x3, x4, x5⟩, d4, d5, d6, -, e5, e6, e7, e8, -⟩
  · left
    have f2 := RF.e (k := 2) (i := 0) (x := r) d6 he
    refine ⟨c, q, _, sI u2 32 19 1 (u2.1 32 17 0), ⟨c1, c2, c3⟩, ?_, ?_, RF.e (k := 3) (i := 0) (x := 0) f2 he, ?_, ?_, ?_⟩
    · rw [bE, show f5_readNumber 1 9 (sI w e 0 0 1) = _ from d1, bO, bE, show f5_readNumber 0 30 _ = _ from d4, bO, bE, rn_f (f2.n c1 c2), bO, bE]
    · exact (((((EC.s).tr (EC.o d2)).tr EC.s).tr (EC.o d5)).tr EC.s).tr EC.s
    · rw [show f8_into 32 19 3 0 1 9 u = _ from into_ok (k := 19) (N := 3) (j := 0) (by omega) (by omega) e1, bO, if_pos (by decide), show f8_into 32 19 3 1 0 30 _ = _ from into_ok (k := 19) (N := 3) (j := 1) (by omega) (by omega) e5, bO, if_neg (nI_nle0 c1 c2)]
    · exact (((EN.o (e2.lo (by omega))).tr (EN.s (by omega) (by omega))).tr (EN.o e6)).tr (EN.s (by omega) (by omega))
    · rw [ky_sI (by omega)]; exact e7
  have m2 := e7.k (k := 19) (i := 1) (x := u2.1 32 17 0) (by omega)
  rcases num2 (lo := 0) (hi := 9) (d6.e (k := 2) (i := 0) (x := nI Y) he) m2 (by omega) (by omega) with ⟨c, q, r, w3, u3, ⟨c1, c2, c3⟩, d7, d8, d9, e9, e10, e11⟩ | ⟨I, z3, q3, w3, u3, ⟨v1, v2, v3, v4, v5⟩, d7, d8, d9, -, e9, e10, e11, e12, -⟩
  · left
    refine ⟨c, q, _, sI u3 32 19 2 (u3.1 32 17 0), ⟨c1, c2, c3⟩, ?_, ?_, RF.e (k := 3) (i := 0) (x := r) d9 he, ?_, ?_, ?_⟩
    · rw [bE, show f5_readNumber 1 9 (sI w e 0 0 1) = _ from d1, bO, bE, show f5_readNumber 0 30 _ = _ from d4, bO, bE, show f5_readNumber 0 9 _ = _ from d7, bO, bE]
    · exact ((((((EC.s).tr (EC.o d2)).tr EC.s).tr (EC.o d5)).tr EC.s).tr (EC.o d8)).tr EC.s
    · rw [show f8_into 32 19 3 0 1 9 u = _ from into_ok (k := 19) (N := 3) (j := 0) (by omega) (by omega) e1, bO, if_pos (by decide), show f8_into 32 19 3 1 0 30 _ = _ from into_ok (k := 19) (N := 3) (j := 1) (by omega) (by omega) e5, bO, if_pos (by decide), show f8_into 32 19 3 2 0 9 _ = _ from into_ok (k := 19) (N := 3) (j := 2) (by omega) (by omega) e9, bO]
    · exact (((((EN.o (e2.lo (by omega))).tr (EN.s (by omega) (by omega))).tr (EN.o (e6.lo (by omega)))).tr (EN.s (by omega) (by omega))).tr (EN.o e10)).tr (EN.s (by omega) (by omega))
    · rw [ky_sI (by omega)]; exact e11
  right
  refine ⟨K, Y, I, q3, _, _, ⟨y1, y2, x2, v2, by omega⟩, ?_, d9.e (k := 3) (i := 0) (x := nI I) he, ?_, ?_, ⟨?_, ?_, ?_, ?_, ?_⟩, ?_, e11.k (k := 19) (i := 2) (x := u3.1 32 17 0) (by omega), ?_, ?_, ?_, ?_, ?_⟩
  · rw [bE, show f5_readNumber 1 9 (sI w e 0 0 1) = _ from d1, bO, bE, show f5_readNumber 0 30 _ = _ from d4, bO, bE, show f5_readNumber 0 9 _ = _ from d7, bO, bE]
  · exact ((((((EC.s).tr (EC.o d2)).tr EC.s).tr (EC.o d5)).tr EC.s).tr (EC.o d8)).tr EC.s
  · exact (d8.2.trans (show (sI w2 e 2 0 (nI Y)).2 = _ from rfl)).trans ((d5.2.trans (show (sI w1 e 1 0 (nI K)).2 = _ from rfl)).trans d2.2)
  · simp (disch := omega) only [ky_sI, kx_sI, d8.1 e he27, d5.1 e he27, d2.1 e he27, upd_s]
  · simp (disch := omega) only [ky_sI, kx_sI, d8.1 e he27, d5.1 e he27, d2.1 e he27, upd_s]
  · simp (disch := omega) only [ky_sI, kx_sI, d8.1 e he27, d5.1 e he27, d2.1 e he27, upd_s]
  · simp (disch := omega) only [ky_sI, kx_sI, d8.1 e he27, d5.1 e he27, d2.1 e he27, upd_s]
  · intro k hk
    simp (disch := omega) only [ky_sI, d8.1 e he27, d5.1 e he27, d2.1 e he27]
  · rw [show f8_into 32 19 3 0 1 9 u = _ from into_ok (k := 19) (N := 3) (j := 0) (by omega) (by omega) e1, bO, if_pos (by decide), show f8_into 32 19 3 1 0 30 _ = _ from into_ok (k := 19) (N := 3) (j := 1) (by omega) (by omega) e5, bO, if_pos (by decide), show f8_into 32 19 3 2 0 9 _ = _ from into_ok (k := 19) (N := 3) (j := 2) (by omega) (by omega) e9, bO]
  · exact (((((EN.o e2).tr (EN.s (by omega) (by omega))).tr (EN.o e6)).tr (EN.s (by omega) (by omega))).tr (EN.o e10)).tr (EN.s (by omega) (by omega))
  · simp (disch := omega) only [ky_sI, kx_sI, e10.2.1, e6.2.1, upd_s, upd_n, e4]
  · simp (disch := omega) only [ky_sI, kx_sI, e10.2.1, e6.2.1, upd_s, upd_n, e8]
  · simp (disch := omega) only [ky_sI, kx_sI, e10.2.1, e6.2.1, upd_s, upd_n, e12]
  · intro k hk
    simp (disch := omega) only [ky_sI, e10.2.1, e6.2.1, e2.2.1]
