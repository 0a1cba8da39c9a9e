/-! draws -/
theorem lN_tl {n : Nat} (h : n < 2 ^ 63) : (lN n).toInt = (n : Int) := lg_ofNat_toInt h
theorem lN_div {a d : Nat} (ha : a < 2 ^ 63) (h0 : 0 < d) (hd : d < 2 ^ 63) : lN a / lN d = lN (a / d) := by
  have h1 := lN_tl ha
  have h2 := lN_tl hd
  have h3 : a / d < 2 ^ 63 := Nat.lt_of_le_of_lt (Nat.div_le_self a d) ha
  rw [← Int64.toInt_inj, Int64.toInt_div, h1, h2, lN_tl h3]
  rw [← Int.ofNat_tdiv]
  generalize a / d = q at h3 ⊢
  exact Int.bmod_eq_of_le (by omega) (by omega)
theorem lN_rem {a d : Nat} (ha : a < 2 ^ 63) (h0 : 0 < d) (hd : d < 2 ^ 63) : jremL (lN a) (lN d) = lN (a % d) := by
  unfold jremL
  rw [lN_div ha h0 hd, lN_mul, lN_sub (Nat.div_mul_le_self a d)]
  exact congrArg lN (by have := Nat.div_add_mod' a d; omega)
theorem lN_bv {n : Nat} (h : n < 2 ^ 63) : (lN n).toBitVec.toNat = n := by
  rw [show (lN n).toBitVec = BitVec.ofNat 64 n from rfl, BitVec.toNat_ofNat]
  exact Nat.mod_eq_of_lt (by omega)
theorem lN_low {x : Nat} (h : x < 2 ^ 63) : lN x &&& 2147483647 = lN (x % 2147483648) := by
  apply Int64.toBitVec_inj.mp
  rw [Int64.toBitVec_and]
  apply BitVec.eq_of_toNat_eq
  rw [BitVec.toNat_and, lN_bv h, lN_bv (by omega), show (2147483647 : Int64).toBitVec.toNat = 2 ^ 31 - 1 from rfl, Nat.and_two_pow_sub_one_eq_mod]
def dr (k : Nat) : Nat := (k * 1103515245 + 12345) % 2147483648
theorem dr_lt (k : Nat) : dr k < 2147483648 := Nat.mod_lt _ (by omega)
theorem dr_c {k : Nat} (h : k < 2147483648) : ((nI k).toInt64 * 1103515245 + 12345 &&& 2147483647).toInt32 = nI (dr k) := by
  rw [nI_l (by omega), show (1103515245 : Int64) = lN 1103515245 from rfl, show (12345 : Int64) = lN 12345 from rfl, lN_mul, lN_add, lN_low (by omega), lN_i]; rfl
theorem dr_m {k : Nat} (h : k < 2147483648) : (jremL ((nI k).toInt64 * 1103515245 + 12345) 2147483648).toInt32 = nI (dr k) := by
  rw [nI_l (by omega), show (1103515245 : Int64) = lN 1103515245 from rfl, show (12345 : Int64) = lN 12345 from rfl, show (2147483648 : Int64) = lN 2147483648 from rfl, lN_mul, lN_add, lN_rem (by omega) (by omega) (by omega), lN_i]; rfl
theorem pos_nI {x : Int32} (h : ¬ x < 0) : ∃ k, k < 2147483648 ∧ x = nI k := by
  rcases ix3 x 2147483647 (by omega) with z | z | ⟨j, hj, rfl⟩
  · exact absurd z h
  · refine ⟨2147483647, by omega, ?_⟩
    rw [← Int32.toInt_inj, nI_ti (by omega)]
    have y := Int32.le_iff_toInt_le.mp z
    rw [nI_ti (by omega)] at y
    have y2 := Int32.toInt_lt x
    omega
  · exact ⟨j, by omega, rfl⟩
theorem draw_c {w : Mem} {k a : Nat} {S : Nat → Int32} (hk : k < 2147483648) (ha : 1 ≤ a) (ha2 : a < 2147483648) (hS : S 0 = nI k) : f7_draw (nI a) (sA w 26 12 S) = some (nI (dr k / 65536 % a), sA w 26 12 (upd S 0 (nI (dr k)))) := by
  have hd := dr_lt k
  have hq : dr k / 65536 < 2147483648 := by omega
  unfold f7_draw
  rw [kx_sA, hS, dr_c hk, sI_A, bE, kx_sA, upd_s, if_pos (show 1 ≤ nI a from nI_le (a := 1) ha ha2), if_neg (show ¬ nI a = 0 from fun z => absurd ((nI_eq (b := 0) (by omega) (by omega)).mp z) (by omega)), show (65536 : Int32) = nI 65536 from rfl, pk_div (by omega) (by omega) (by omega), jr hq (by omega) ha2]
theorem draw_m {w : Mem} {k a : Nat} {S : Nat → Int32} (hk : k < 2147483648) (ha : 1 ≤ a) (ha2 : a < 2147483648) (hS : S 0 = nI k) : f8_draw (nI a) (sA w 32 12 S) = some (nI (dr k / 65536 % a), sA w 32 12 (upd S 0 (nI (dr k)))) := by
  have hd := dr_lt k
  have hq : dr k / 65536 < 2147483648 := by omega
  unfold f8_draw
  rw [kx_sA, hS, dr_m hk, sI_A, bE, kx_sA, upd_s, if_neg (show ¬ nI a = 0 from fun z => absurd ((nI_eq (b := 0) (by omega) (by omega)).mp z) (by omega)), show (65536 : Int32) = nI 65536 from rfl, pk_div (by omega) (by omega) (by omega), jr hq (by omega) ha2]
