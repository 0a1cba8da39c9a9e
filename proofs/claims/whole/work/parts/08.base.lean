/-! numbers, memory and small facts for the pure side -/
theorem nI_lit (n : Nat) : (OfNat.ofNat n : Int32) = nI (OfNat.ofNat n) := rfl
theorem lN_lit (n : Nat) : (OfNat.ofNat n : Int64) = lN (OfNat.ofNat n) := rfl
theorem lt_T {a b : Nat} (h : a < b) (hb : b < 2147483648) : (nI a < nI b) = True := eq_true ((nI_ltI (by omega) hb).mpr h)
theorem lt_F {a b : Nat} (h : b ≤ a) (ha : a < 2147483648) : (nI a < nI b) = False := eq_false (fun z => absurd ((nI_ltI ha (by omega)).mp z) (by omega))
theorem le_T {a b : Nat} (h : a ≤ b) (hb : b < 2147483648) : (nI a ≤ nI b) = True := eq_true ((nI_leI (by omega) hb).mpr h)
theorem le_F {a b : Nat} (h : b < a) (ha : a < 2147483648) : (nI a ≤ nI b) = False := eq_false (fun z => absurd ((nI_leI ha (by omega)).mp z) (by omega))
theorem eq_T {a b : Nat} (h : a = b) : (nI a = nI b) = True := eq_true (by rw [h])
theorem eq_F {a b : Nat} (h : a ≠ b) (ha : a < 2147483648) (hb : b < 2147483648) : (nI a = nI b) = False := eq_false (fun z => h ((nI_eq ha hb).mp z))
theorem bE {α β : Type} (e : α) (f : α → β) : bnd e f = f e := by
  have h : f e = f e := rfl
  exact h
theorem bO {β : Type} (r : Int32) (w : Mem) (f : Int32 → Mem → Option β) : bndO (some (r, w)) f = f r w := by
  have h : f r w = f r w := rfl
  exact h
theorem bV {β : Type} (w : Mem) (f : Mem → Option β) : bndV (some w) f = f w := by
  have h : f w = f w := rfl
  exact h
theorem bK {α β : Type} (a : α) (f : α → Option β) : (some a).bind f = f a := by
  have h : f a = f a := rfl
  exact h
theorem nle_T {a b : Nat} (h : a ≤ b) : (a ≤ b) = True := eq_true h
theorem nle_F {a b : Nat} (h : b < a) : (a ≤ b) = False := eq_false (by omega)
theorem nlt_T {a b : Nat} (h : a < b) : (a < b) = True := eq_true h
theorem nlt_F {a b : Nat} (h : b ≤ a) : (a < b) = False := eq_false (by omega)
theorem nI_ti {n : Nat} (h : n < 2147483648) : (nI n).toInt = (n : Int) := nI_toInt h
theorem m1_ti {n : Nat} (h : n < 2147483648) : (-nI n).toInt = -(n : Int) := sb_negT h
theorem ltm_T {a b : Nat} (h : 0 < a) (ha : a < 2147483648) (hb : b < 2147483648) : (-nI a < nI b) = True := eq_true (by rw [Int32.lt_iff_toInt_lt, m1_ti ha, nI_ti hb]; omega)
theorem ltm_F {a b : Nat} (ha : a < 2147483648) (hb : b < 2147483648) : (nI b < -nI a) = False := eq_false (by rw [Int32.lt_iff_toInt_lt, m1_ti ha, nI_ti hb]; omega)
theorem lem_T {a b : Nat} (ha : a < 2147483648) (hb : b < 2147483648) : (-nI a ≤ nI b) = True := eq_true (by rw [Int32.le_iff_toInt_le, m1_ti ha, nI_ti hb]; omega)
theorem lem_F {a b : Nat} (h : 0 < a) (ha : a < 2147483648) (hb : b < 2147483648) : (nI b ≤ -nI a) = False := eq_false (by rw [Int32.le_iff_toInt_le, m1_ti ha, nI_ti hb]; omega)
theorem eqm_F {a b : Nat} (h : 0 < a) (ha : a < 2147483648) (hb : b < 2147483648) : (nI b = -nI a) = False := eq_false (by rw [← Int32.toInt_inj, m1_ti ha, nI_ti hb]; omega)
theorem meq_F {a b : Nat} (h : 0 < a) (ha : a < 2147483648) (hb : b < 2147483648) : (-nI a = nI b) = False := eq_false (by rw [← Int32.toInt_inj, m1_ti ha, nI_ti hb]; omega)
theorem cl_nI {n : Nat} (h : n < 2147483648) : (nI n).toNatClampNeg = n := nI_clamp h
/-- an argument: below 0, from n on, or one of 0 .. n less 1 -/
theorem ix3 (x : Int32) (n : Nat) (hn : n < 2147483648) : x < nI 0 ∨ nI n ≤ x ∨ ∃ j : Nat, j < n ∧ x = nI j := pk_ix x hn
/-- reading behind a store: an object, an array, a place -/
theorem rd_sI (w : Mem) (d k i : Nat) (x : Int32) (a b : Nat) : (sI w d k i x).1 a b = if a = d ∧ b = k then upd (w.1 d k) i x else w.1 a b := by
  rw [sI_sA]; rfl
theorem rd_sA (w : Mem) (d k : Nat) (f : Nat → Int32) (a b : Nat) : (sA w d k f).1 a b = if a = d ∧ b = k then f else w.1 a b := rfl
theorem rd_sL1 (w : Mem) (d k i : Nat) (x : Int64) : (sL w d k i x).1 = w.1 := rfl
theorem rd_sR1 (w : Mem) (d k : Nat) (x : Nat × Nat) : (sR w d k x).1 = w.1 := rfl
theorem rd_sI2 (w : Mem) (d k i : Nat) (x : Int32) : (sI w d k i x).2.1 = w.2.1 := rfl
theorem rd_sA2 (w : Mem) (d k : Nat) (f : Nat → Int32) : (sA w d k f).2.1 = w.2.1 := rfl
theorem rd_sL2 (w : Mem) (d k i : Nat) (x : Int64) (a b : Nat) : (sL w d k i x).2.1 a b = if a = d ∧ b = k then vp_updL (w.2.1 d k) i x else w.2.1 a b := by
  funext c
  by_cases h : a = d ∧ b = k
  · rw [if_pos h]; simp [sL, h.1, h.2, vp_updL]
  · rw [if_neg h]; simp only [sL]; exact if_neg (fun z => h ⟨z.1, z.2.1⟩)
theorem rd_sR2 (w : Mem) (d k : Nat) (x : Nat × Nat) : (sR w d k x).2.1 = w.2.1 := rfl
theorem rd_sI3 (w : Mem) (d k i : Nat) (x : Int32) : (sI w d k i x).2.2 = w.2.2 := rfl
theorem rd_sA3 (w : Mem) (d k : Nat) (f : Nat → Int32) : (sA w d k f).2.2 = w.2.2 := rfl
theorem rd_sL3 (w : Mem) (d k i : Nat) (x : Int64) : (sL w d k i x).2.2 = w.2.2 := rfl
theorem rd_sR3 (w : Mem) (d k : Nat) (x : Nat × Nat) (a b : Nat) : (sR w d k x).2.2 a b = if a = d ∧ b = k then x else w.2.2 a b := rfl
/-- an object that isn't the one written -/
theorem ob_sI {w : Mem} {d k i : Nat} {x : Int32} {a : Nat} (h : a ≠ d) : (sI w d k i x).1 a = w.1 a := by
  funext b c; simp [sI, h]
theorem ob_sA {w : Mem} {d k : Nat} {f : Nat → Int32} {a : Nat} (h : a ≠ d) : (sA w d k f).1 a = w.1 a := by
  funext b; simp [sA, h]
theorem upd_s (f : Nat → Int32) (k : Nat) (x : Int32) : upd f k x k = x := by simp [upd]
theorem upd_n {f : Nat → Int32} {k j : Nat} {x : Int32} (h : j ≠ k) : upd f k x j = f j := by simp [upd, h]
theorem ky_sI {w : Mem} {d k i : Nat} {x : Int32} {a b : Nat} (h : ¬ (a = d ∧ b = k)) : (sI w d k i x).1 a b = w.1 a b := by rw [rd_sI, if_neg h]
theorem ky_sA {w : Mem} {d k : Nat} {f : Nat → Int32} {a b : Nat} (h : ¬ (a = d ∧ b = k)) : (sA w d k f).1 a b = w.1 a b := by rw [rd_sA, if_neg h]
theorem kx_sI {w : Mem} {d k i : Nat} {x : Int32} : (sI w d k i x).1 d k = upd (w.1 d k) i x := by rw [rd_sI, if_pos ⟨rfl, rfl⟩]
theorem kx_sA {w : Mem} {d k : Nat} {f : Nat → Int32} : (sA w d k f).1 d k = f := by rw [rd_sA, if_pos ⟨rfl, rfl⟩]
theorem j2c_ok : ∀ c, c < 256 → j2c (nI c) = nI c := by decide +kernel
theorem jcc_ok : ∀ c, c < 256 → (nI c).toUInt32.toUInt16.toUInt32.toInt32 = nI c := by decide +kernel
/-- sets of villages: numbers below 256 -/
def tb (m v : Nat) : Bool := m / 2 ^ v % 2 == 1
def clr (m v : Nat) : Nat := if tb m v then m - 2 ^ v else m
def ins (m v : Nat) : Nat := if tb m v then m else m + 2 ^ v
def pc (m : Nat) : Nat := m % 2 + m / 2 % 2 + m / 4 % 2 + m / 8 % 2 + m / 16 % 2 + m / 32 % 2 + m / 64 % 2 + m / 128 % 2
theorem bt_sh : ∀ m, m < 256 → ∀ v, v < 9 → (jshr (nI m) (nI v)) &&& nI 1 = if tb m v then nI 1 else nI 0 := by decide +kernel
theorem bt_or : ∀ m, m < 256 → ∀ v, v < 8 → nI m ||| jshl (nI 1) (nI v) = nI (ins m v) := by decide +kernel
theorem bt_clr : ∀ m, m < 256 → ∀ v, v < 8 → nI m &&& ((jshl (nI 1) (nI v)) ^^^ (-nI 1)) = nI (clr m v) := by decide +kernel
theorem bt_lt : ∀ m, m < 256 → ∀ v, v < 8 → ins m v < 256 ∧ clr m v < 256 := by decide +kernel
theorem bt_8 : ∀ m, m < 256 → tb m 8 = false := by decide +kernel
theorem pc_le : ∀ m, m < 256 → pc m ≤ 8 := by decide +kernel
def bcnt (x0 : Int32) : Int32 := bnd (x0 - ((jushr x0 1) &&& 1431655765)) fun y1 => bnd ((y1 &&& 858993459) + ((jushr y1 2) &&& 858993459)) fun y2 => bnd ((y2 + (jushr y2 4)) &&& 252645135) fun y3 => bnd (y3 + (jushr y3 8)) fun y4 => bnd (y4 + (jushr y4 16)) fun y5 => y5 &&& 63
theorem bcnt_ok : ∀ m, m < 256 → bcnt (nI m) = nI (pc m) := by decide +kernel
theorem bitCount_ok {m : Nat} (h : m < 256) (w : Mem) : f6_bitCount_0f7a4 (nI m) w = some (nI (pc m), w) := by
  rw [← bcnt_ok m h]; rfl
/-- the reference's 'in' -/
theorem cmp_lt (x y : Int64) : (lg_cmp x y < 0) ↔ ¬ y ≤ x := by
  rw [← lg_cmp_ge x y, Int32.not_le]
theorem cmp_gt (x y : Int64) : (0 < lg_cmp x y) ↔ ¬ x ≤ y := by
  unfold lg_cmp
  by_cases h : y < x
  · simp only [gt_iff_lt, if_pos h]
    exact ⟨fun _ => Int64.not_le.mpr h, fun _ => by decide⟩
  · simp only [gt_iff_lt, if_neg h]
    refine ⟨fun z => ?_, fun z => absurd (Int64.not_lt.mp h) z⟩
    by_cases h2 : x = y
    · rw [if_pos h2] at z; exact absurd z (by decide)
    · rw [if_neg h2] at z; exact absurd z (by decide)
theorem in_ok (x l m : Int64) (w : Mem) : f8_in x l m w = some (if l ≤ x ∧ x ≤ m then 1 else 0, w) := by
  unfold f8_in
  simp only [cmp_lt, cmp_gt]
  by_cases h1 : l ≤ x <;> by_cases h2 : x ≤ m <;> simp [h1, h2]
theorem in_i (x y z : Int32) (w : Mem) : f8_in x.toInt64 y.toInt64 z.toInt64 w = some (if y ≤ x ∧ x ≤ z then 1 else 0, w) := by
  rw [in_ok]
  have e1 : y.toInt64 ≤ x.toInt64 ↔ y ≤ x := by rw [Int64.le_iff_toInt_le, Int32.le_iff_toInt_le, Int32.toInt_toInt64, Int32.toInt_toInt64]
  have e2 : x.toInt64 ≤ z.toInt64 ↔ x ≤ z := by rw [Int64.le_iff_toInt_le, Int32.le_iff_toInt_le, Int32.toInt_toInt64, Int32.toInt_toInt64]
  simp only [e1, e2]
