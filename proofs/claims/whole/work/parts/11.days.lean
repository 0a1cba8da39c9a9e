/-! who comes -/
theorem ts_bit {w : Int64} {s : UInt64} {j : Nat} (hj : j < 64) (hs : s.toNat = j) : ((w.toUInt64 >>> s).toInt64 &&& 1) = 0 ↔ w.toBitVec.getLsbD j = false := by
  have e : (w.toUInt64 >>> s).toInt64.toBitVec = w.toBitVec >>> j := by
    apply BitVec.eq_of_toNat_eq
    show (w.toUInt64 >>> s).toNat = _
    rw [UInt64.toNat_shiftRight, hs, Nat.mod_eq_of_lt hj, BitVec.toNat_ushiftRight]
    rfl
  rw [← Int64.toBitVec_inj, Int64.toBitVec_and, e]
  show w.toBitVec >>> j &&& 1#64 = 0#64 ↔ _
  constructor
  · intro h
    have t := congrArg (fun x => x.getLsbD 0) h
    simpa using t
  · intro h
    apply BitVec.eq_of_getLsbD_eq
    intro i hi
    by_cases h0 : i = 0
    · subst h0
      simpa using h
    · simp [h0]
theorem wb_cu : ∀ k, k < 64 → ((nI k).toInt64.toUInt64 &&& Int64.toUInt64 63) = UInt64.ofNat k := by decide +kernel
theorem jl_bit {x : Int64} {j : Nat} (hj : j < 64) : (lg_cmp ((jlushr x (nI j)) &&& 1) 0 = 0) ↔ x.toBitVec.getLsbD j = false := by
  rw [lg_cmp_eq]
  unfold jlushr
  rw [wb_cu j hj]
  exact ts_bit hj (by rw [UInt64.toNat_ofNat']; omega)
theorem jr {a d : Nat} (ha : a < 2147483648) (h0 : 0 < d) (hd : d < 2147483648) : jrem (nI a) (nI d) = nI (a % d) := pk_rem ha h0 hd
theorem jmax1 {p : Nat} (h : 1 ≤ p) (h2 : p < 2147483648) : jmax (nI 1) (nI p) = nI p := by
  unfold jmax
  by_cases z : p = 1
  · subst z; rfl
  · rw [if_pos (nI_lt (by omega) h2)]
theorem jshr6 {t : Nat} (h : t < 2147483648) : jshr (nI t) (nI 6) = nI (t / 64) := pk_shrN h _ 6 (by decide)
theorem jand63 {t : Nat} (h : t < 2147483648) : nI t &&& nI 63 = nI (t % 64) := pk_andN (m := 63) (by omega) 6 (by decide)
theorem anyB_big {n : Nat} {f : Nat → Nat} {t b : Nat} (h : ∀ k, k < n → f k < b) (ht : b ≤ t) : anyB n f t = false := by
  induction n with
  | zero => rfl
  | succ n ih =>
    have h1 := h n (by omega)
    have h2 : ¬ f n = t := by omega
    simp [anyB, ih (fun k hk => h k (by omega)), h2]
theorem mk_ok {d k n t : Nat} {f : Nat → Nat} {w : Mem} (hf : ∀ k, k < n → f k < 1000) (hb : ∀ c j, c < 16 → j < 64 → (w.2.1 d k c).toBitVec.getLsbD j = anyB n f (64 * c + j)) (ht : t < 2147483648) : f6_isMarked d k 16 (nI t) w = some (if anyB n f t then nI 1 else nI 0, w) := by
  unfold f6_isMarked
  rw [nI_lit 6, jshr6 ht]
  by_cases hc : t / 64 < 16
  · have hb2 := hb (t / 64) (t % 64) hc (by omega)
    rw [show 64 * (t / 64) + t % 64 = t by omega] at hb2
    have hz := jl_bit (x := w.2.1 d k (t / 64)) (j := t % 64) (by omega)
    simp only [bnd]
    rw [if_neg (nI_pos (by omega)), if_neg (show ¬ Int32.ofNat 16 ≤ nI (t / 64) from nI_ge hc (by omega)), if_neg (nI_in hc (by omega)), nI_clamp (by omega), nI_lit 63, jand63 ht]
    cases hv : anyB n f t with
    | false => rw [hv] at hb2; rw [if_pos (hz.mpr hb2)]; rfl
    | true => rw [hv] at hb2; rw [if_neg (fun z => by rw [hz.mp z] at hb2; cases hb2)]; rfl
  · rw [anyB_big hf (by omega)]
    simp only [bnd]
    rw [if_neg (nI_pos (by omega)), if_pos (show Int32.ofNat 16 ≤ nI (t / 64) from nI_le (by omega) (by omega))]; rfl
/-- whether one comes, but for its year and its staying away -/
def gb (ro pe : Nat) (o : Int32) (fe fo : Bool) (t : Nat) : Bool := decide (ro ≤ t) && (decide (nI (t % pe) = o) || fe) && (decide (ro = 0) || !fo)
section Rock
variable {nv K Y I F Fo : Nat} {ro pe fe fs fg : Nat → Nat} {g : Nat} {w : Mem} {M : Nat → Nat → Int32}
theorem brings_ok (h : RG nv K Y I F Fo ro pe fe fs fg (w.1 g) (w.2.1 g) M) {v t : Nat} (hv : v < nv) (o : Int32) (ht : t < 2147483648) : f6_brings g (nI v) o (nI t) w = some (if gb (ro v) (pe v) o (anyB F fs t) (anyB Fo fg t) t then nI 1 else nI 0, w) := by
  obtain ⟨⟨hnv, -, -, -, -, -, -⟩, -, -, -, -, a4, -, -, a7, a8, a9, a10, a11⟩ := h
  obtain ⟨⟨r1, r2, r3, -⟩, ⟨r4, -⟩, ⟨r5, -⟩, -⟩ := a7 v hv
  have m1 := mk_ok (d := g) (k := 11) (w := w) (fun k hk => (a8 k hk).1) a10 ht
  have m2 := mk_ok (d := g) (k := 12) (w := w) (fun k hk => (a9 k hk).1) a11 ht
  have e1 := has_T a4.1 hnv hv
  have e2 := jmax1 r2 (by omega)
  have e3 := jr ht (show 0 < pe v by omega) (by omega)
  unfold f6_brings f6_periodOf f6_brings_44
  by_cases c1 : ro v ≤ t
  · by_cases c2 : nI (t % pe v) = o
    · by_cases c4 : ro v = 0
      · simp (disch := omega) only [bE, bO, bV, bK, nI_lit, nI_add, lt_T, lt_F, le_T, le_F, eq_T, eq_F, ltm_T, ltm_F, lem_T, lem_F, eqm_F, meq_F, cl_nI, nle_T, nle_F, nlt_T, nlt_F, ↓reduceIte, or_true, true_or, or_false, false_or, and_true, true_and, and_false, false_and, not_true_eq_false, not_false_eq_true, or_self, and_self, true_implies, ite_self, ob_sI, ky_sI, kx_sI, ob_sA, ky_sA, kx_sA, upd_s, upd_n, rd_sI3, rd_sA3, rd_sI2, rd_sA2, rd_sL1, rd_sR1, e1, r4, r5, e2, e3, c2, m1, m2]
        simp [gb, c1, c2, c4]
      · simp (disch := omega) only [bE, bO, bV, bK, nI_lit, nI_add, lt_T, lt_F, le_T, le_F, eq_T, eq_F, ltm_T, ltm_F, lem_T, lem_F, eqm_F, meq_F, cl_nI, nle_T, nle_F, nlt_T, nlt_F, ↓reduceIte, or_true, true_or, or_false, false_or, and_true, true_and, and_false, false_and, not_true_eq_false, not_false_eq_true, or_self, and_self, true_implies, ite_self, ob_sI, ky_sI, kx_sI, ob_sA, ky_sA, kx_sA, upd_s, upd_n, rd_sI3, rd_sA3, rd_sI2, rd_sA2, rd_sL1, rd_sR1, e1, r4, r5, e2, e3, c2, m1, m2]
        cases h5 : anyB Fo fg t <;> (try simp (disch := omega) only [bE, bO, bV, bK, nI_lit, nI_add, lt_T, lt_F, le_T, le_F, eq_T, eq_F, ltm_T, ltm_F, lem_T, lem_F, eqm_F, meq_F, cl_nI, nle_T, nle_F, nlt_T, nlt_F, ↓reduceIte, or_true, true_or, or_false, false_or, and_true, true_and, and_false, false_and, not_true_eq_false, not_false_eq_true, or_self, and_self, true_implies, ite_self, Bool.false_eq_true]) <;> simp [gb, c1, c2, c4]
    · by_cases c4 : ro v = 0
      · simp (disch := omega) only [bE, bO, bV, bK, nI_lit, nI_add, lt_T, lt_F, le_T, le_F, eq_T, eq_F, ltm_T, ltm_F, lem_T, lem_F, eqm_F, meq_F, cl_nI, nle_T, nle_F, nlt_T, nlt_F, ↓reduceIte, or_true, true_or, or_false, false_or, and_true, true_and, and_false, false_and, not_true_eq_false, not_false_eq_true, or_self, and_self, true_implies, ite_self, ob_sI, ky_sI, kx_sI, ob_sA, ky_sA, kx_sA, upd_s, upd_n, rd_sI3, rd_sA3, rd_sI2, rd_sA2, rd_sL1, rd_sR1, e1, r4, r5, e2, e3, c2, m1, m2]
        cases h5 : anyB F fs t <;> (try simp (disch := omega) only [bE, bO, bV, bK, nI_lit, nI_add, lt_T, lt_F, le_T, le_F, eq_T, eq_F, ltm_T, ltm_F, lem_T, lem_F, eqm_F, meq_F, cl_nI, nle_T, nle_F, nlt_T, nlt_F, ↓reduceIte, or_true, true_or, or_false, false_or, and_true, true_and, and_false, false_and, not_true_eq_false, not_false_eq_true, or_self, and_self, true_implies, ite_self, Bool.false_eq_true]) <;> simp [gb, c1, c2, c4]
      · simp (disch := omega) only [bE, bO, bV, bK, nI_lit, nI_add, lt_T, lt_F, le_T, le_F, eq_T, eq_F, ltm_T, ltm_F, lem_T, lem_F, eqm_F, meq_F, cl_nI, nle_T, nle_F, nlt_T, nlt_F, ↓reduceIte, or_true, true_or, or_false, false_or, and_true, true_and, and_false, false_and, not_true_eq_false, not_false_eq_true, or_self, and_self, true_implies, ite_self, ob_sI, ky_sI, kx_sI, ob_sA, ky_sA, kx_sA, upd_s, upd_n, rd_sI3, rd_sA3, rd_sI2, rd_sA2, rd_sL1, rd_sR1, e1, r4, r5, e2, e3, c2, m1, m2]
        cases h5 : anyB Fo fg t <;> cases h6 : anyB F fs t <;> (try simp (disch := omega) only [bE, bO, bV, bK, nI_lit, nI_add, lt_T, lt_F, le_T, le_F, eq_T, eq_F, ltm_T, ltm_F, lem_T, lem_F, eqm_F, meq_F, cl_nI, nle_T, nle_F, nlt_T, nlt_F, ↓reduceIte, or_true, true_or, or_false, false_or, and_true, true_and, and_false, false_and, not_true_eq_false, not_false_eq_true, or_self, and_self, true_implies, ite_self, Bool.false_eq_true]) <;> simp [gb, c1, c2, c4]
  · simp (disch := omega) only [bE, bO, bV, bK, nI_lit, nI_add, lt_T, lt_F, le_T, le_F, eq_T, eq_F, ltm_T, ltm_F, lem_T, lem_F, eqm_F, meq_F, cl_nI, nle_T, nle_F, nlt_T, nlt_F, ↓reduceIte, or_true, true_or, or_false, false_or, and_true, true_and, and_false, false_and, not_true_eq_false, not_false_eq_true, or_self, and_self, true_implies, ite_self, ob_sI, ky_sI, kx_sI, ob_sA, ky_sA, kx_sA, upd_s, upd_n, rd_sI3, rd_sA3, rd_sI2, rd_sA2, rd_sL1, rd_sR1, e1, r4, r5, e2, e3]
    simp [gb, c1]
/-- the set of those for which something is so -/
def msk (b : Nat → Bool) : Nat → Nat
  | 0 => 0
  | n + 1 => if b n then ins (msk b n) n else msk b n
theorem msk_lt (b : Nat → Bool) : ∀ n, n ≤ 8 → msk b n < 256
  | 0, _ => Nat.zero_lt_succ 255
  | n + 1, h => by
    have ih := msk_lt b n (by omega)
    unfold msk
    by_cases hb : b n = true
    · rw [if_pos hb]; exact (bt_lt _ ih n (by omega)).1
    · rw [if_neg hb]; exact ih
theorem msk_T {b : Nat → Bool} {n : Nat} (h : b n = true) : msk b (n + 1) = ins (msk b n) n := if_pos h
theorem msk_F {b : Nat → Bool} {n : Nat} (h : b n = false) : msk b (n + 1) = msk b n := if_neg (by rw [h]; decide)
theorem stays_ok {d st v : Nat} (e : w.1 d 4 0 = nI st) (hs : st < 256) (hv : v < 8) : f1_staysAway d (nI v) w = some (if tb st v then nI 1 else nI 0, w) := by
  unfold f1_staysAway
  simp (disch := omega) only [bE, bO, bV, bK, nI_lit, nI_add, lt_T, lt_F, le_T, le_F, eq_T, eq_F, ltm_T, ltm_F, lem_T, lem_F, eqm_F, meq_F, cl_nI, nle_T, nle_F, nlt_T, nlt_F, ↓reduceIte, or_true, true_or, or_false, false_or, and_true, true_and, and_false, false_and, not_true_eq_false, not_false_eq_true, or_self, and_self, true_implies, ite_self, e, bt_sh st hs v (by omega)]
  cases tb st v <;> simp (disch := omega) only [bE, bO, bV, bK, nI_lit, nI_add, lt_T, lt_F, le_T, le_F, eq_T, eq_F, ltm_T, ltm_F, lem_T, lem_F, eqm_F, meq_F, cl_nI, nle_T, nle_F, nlt_T, nlt_F, ↓reduceIte, or_true, true_or, or_false, false_or, and_true, true_and, and_false, false_and, not_true_eq_false, not_false_eq_true, or_self, and_self, true_implies, ite_self, Bool.false_eq_true]
def cb (ro pe : Nat → Nat) (o : Nat → Int32) (st : Nat) (fe fo : Bool) (t : Nat) (v : Nat) : Bool := !tb st v && gb (ro v) (pe v) (o v) fe fo t
theorem cal_loop (h : RG nv K Y I F Fo ro pe fe fs fg (w.1 g) (w.2.1 g) M) {d st t : Nat} (e : w.1 d 4 0 = nI st) (hs : st < 256) (ht : t < 2147483648) :
    ∀ (k v n : Nat), v + k = nv → k < n → f1_comersByCalendar_5 d g (nI t) n (nI (msk (cb ro pe (w.1 d 0) st (anyB F fs t) (anyB Fo fg t) t) v)) (nI v) w = some (nI (msk (cb ro pe (w.1 d 0) st (anyB F fs t) (anyB Fo fg t) t) nv), w) := by
  have a4 := h.2.2.2.2.2.1.1
  have hnv := h.1.1
  intro k
  induction k with
  | zero =>
    intro v n hv hn
    obtain ⟨n, rfl⟩ : ∃ m, n = m + 1 := ⟨n - 1, by omega⟩
    rw [f1_comersByCalendar_5]
    obtain rfl : v = nv := by omega
    simp (disch := omega) only [bE, bO, bV, bK, nI_lit, nI_add, lt_T, lt_F, le_T, le_F, eq_T, eq_F, ltm_T, ltm_F, lem_T, lem_F, eqm_F, meq_F, cl_nI, nle_T, nle_F, nlt_T, nlt_F, ↓reduceIte, or_true, true_or, or_false, false_or, and_true, true_and, and_false, false_and, not_true_eq_false, not_false_eq_true, or_self, and_self, true_implies, ite_self, a4]
  | succ k ih =>
    intro v n hv hn
    obtain ⟨n, rfl⟩ : ∃ m, n = m + 1 := ⟨n - 1, by omega⟩
    have i1 := ih (v + 1) n (by omega) (by omega)
    rw [f1_comersByCalendar_5]
    have s1 := stays_ok (v := v) e hs (by omega)
    have b1 := brings_ok h (v := v) (by omega) (w.1 d 0 v) ht
    have hm := msk_lt (cb ro pe (w.1 d 0) st (anyB F fs t) (anyB Fo fg t) t) v (by omega)
    have o1 := bt_or _ hm v (by omega)
    cases h5 : tb st v with
    | true =>
      rw [msk_F (show cb ro pe (w.1 d 0) st (anyB F fs t) (anyB Fo fg t) t v = false by simp [cb, h5])] at i1
      simp only [h5, if_true] at s1
      simp (disch := omega) only [bE, bO, bV, bK, nI_lit, nI_add, lt_T, lt_F, le_T, le_F, eq_T, eq_F, ltm_T, ltm_F, lem_T, lem_F, eqm_F, meq_F, cl_nI, nle_T, nle_F, nlt_T, nlt_F, ↓reduceIte, or_true, true_or, or_false, false_or, and_true, true_and, and_false, false_and, not_true_eq_false, not_false_eq_true, or_self, and_self, true_implies, ite_self, a4, s1]
      exact i1
    | false =>
      simp only [h5, Bool.false_eq_true, if_false] at s1
      cases h6 : gb (ro v) (pe v) (w.1 d 0 v) (anyB F fs t) (anyB Fo fg t) t with
      | true =>
        rw [msk_T (show cb ro pe (w.1 d 0) st (anyB F fs t) (anyB Fo fg t) t v = true by simp [cb, h5, h6])] at i1
        simp only [h6, if_true] at b1
        simp (disch := omega) only [bE, bO, bV, bK, nI_lit, nI_add, lt_T, lt_F, le_T, le_F, eq_T, eq_F, ltm_T, ltm_F, lem_T, lem_F, eqm_F, meq_F, cl_nI, nle_T, nle_F, nlt_T, nlt_F, ↓reduceIte, or_true, true_or, or_false, false_or, and_true, true_and, and_false, false_and, not_true_eq_false, not_false_eq_true, or_self, and_self, true_implies, ite_self, a4, s1, b1, o1]
        exact i1
      | false =>
        rw [msk_F (show cb ro pe (w.1 d 0) st (anyB F fs t) (anyB Fo fg t) t v = false by simp [cb, h5, h6])] at i1
        simp only [h6, Bool.false_eq_true, if_false] at b1
        simp (disch := omega) only [bE, bO, bV, bK, nI_lit, nI_add, lt_T, lt_F, le_T, le_F, eq_T, eq_F, ltm_T, ltm_F, lem_T, lem_F, eqm_F, meq_F, cl_nI, nle_T, nle_F, nlt_T, nlt_F, ↓reduceIte, or_true, true_or, or_false, false_or, and_true, true_and, and_false, false_and, not_true_eq_false, not_false_eq_true, or_self, and_self, true_implies, ite_self, a4, s1, b1]
        exact i1
theorem cal_ok (h : RG nv K Y I F Fo ro pe fe fs fg (w.1 g) (w.2.1 g) M) {d st t : Nat} (e : w.1 d 4 0 = nI st) (hs : st < 256) (ht : t < 2147483648) : f1_comersByCalendar d g (nI t) w = some (nI (msk (cb ro pe (w.1 d 0) st (anyB F fs t) (anyB Fo fg t) t) nv), w) := by
  have hnv := h.1.1
  exact cal_loop h e hs ht nv 0 100000 (by omega) (by omega)
end Rock
