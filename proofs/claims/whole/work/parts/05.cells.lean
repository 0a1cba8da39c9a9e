/-! fields, arrays, ends, calls -/
def FL (own : String) (idx c k : Nat) : Prop := ∃ (C : String) (T : u_T), vwCl[c]? = some (C, T, nf c) ∧ (∀ w ∈ u_ws C T (nf c), w ∈ tG) ∧ k < nf c ∧ Cond.fieldLink own idx (T k).1 (T k).2.1 (T k).2.2.1 ∈ tG
def FW (own : String) (idx c k : Nat) (ty : FieldType) : Prop := ∃ (C : String) (T : u_T) (ty0 : Nat → FieldType), vwCl[c]? = some (C, T, nf c) ∧ (∀ w ∈ u_ws C T (nf c), w ∈ tG) ∧ k < nf c ∧ Cond.fieldLink own idx (T k).1 (T k).2.1 (T k).2.2.1 ∈ tG ∧
  (∀ j, j < nf c → parseFieldDescriptor (T j).2.2.1 = some (ty0 j)) ∧ (∀ a, a < nf c → ∀ b, b < nf c → a ≠ b → (T a).2.1 ≠ (T b).2.1) ∧ (T k).2.2.2 = false ∧ parseFieldDescriptor (T k).2.2.1 = some ty
theorem fs_at {f : Nat → Value} {n k : Nat} (h : k < n) : ((List.range n).map f)[k]? = some (f k) := by
  rw [List.getElem?_map, List.getElem?_range h]; rfl
theorem fs_set {f g : Nat → Value} {n k : Nat} {v : Value} (h : ∀ j, j < n → g j = if j = k then v else f j) : ((List.range n).map f).set k v = (List.range n).map g := by
  apply List.ext_getElem?
  intro j
  by_cases hj : j < n
  · rw [fs_at hj, h j hj]
    by_cases hk : j = k
    · subst hk
      rw [List.getElem?_set_self (by rw [List.length_map, List.length_range]; exact hj), if_pos rfl]
    · rw [List.getElem?_set_ne (fun z => hk z.symm), fs_at hj, if_neg hk]
  · rw [List.getElem?_eq_none (by rw [List.length_set, List.length_map, List.length_range]; omega), List.getElem?_eq_none (by rw [List.length_map, List.length_range]; omega)]
def jmin (x z : Int32) : Int32 := if z < x then z else x
def jmax (x z : Int32) : Int32 := if x < z then z else x
theorem mI : Cond.initialized "java/lang/Math" ∈ tG := tG_of (i := 11) (by decide +kernel) (by decide +kernel)
theorem mSmin : Cond.static Lib.Math.min.name ∈ tG := tG_of (i := 331) (by decide +kernel) (by decide +kernel)
theorem mSmax : Cond.static Lib.Math.max.name ∈ tG := tG_of (i := 450) (by decide +kernel) (by decide +kernel)
theorem mCmin : Cond.code Lib.Math.min.name Lib.Math.min.code 2 (some .int) ∈ tG := tG_of (i := 332) (by decide +kernel) (by decide +kernel)
theorem mCmax : Cond.code Lib.Math.max.name Lib.Math.max.code 2 (some .int) ∈ tG := tG_of (i := 451) (by decide +kernel) (by decide +kernel)
section Rules
variable {y : MethodName} {cc : ByteArray} {nL : Nat} {rt : Option FieldType} {dp pc : Nat} {lv lv' : List (Nat × AV)} {st : List AV} {w w' : Mem} {o : Option AV}
theorem b_getI {idx c k d : Nat} (hF : FL y.cls idx c k) (hO : Ob d c) (hf : ft c k = 0) (hd : decode cc pc = .ok (.getfield idx, 3)) (h : Bk y cc nL rt dp (pc + 3) lv (vI (w.1 d k 0) :: st) w o w') : Bk y cc nL rt dp pc lv (vR d 0 :: st) w o w' := by
  intro p l e R s m args below meth c0 D cy ad A C H locs ls hP hS hl
  obtain ⟨Cn, T, hc, hin, hk, hlk⟩ := hF
  obtain ⟨i, hi, hw⟩ := wld_at (cy := cy) (ad := ad) (w := w) hO.2
  rw [ent_ob hO.1] at hw
  exact va_get C.1 C.2.1 C.2.2.2.2.2.2.1 hin C.2.2.2.2.2.1 C.2.2.2.2.2.2.2.1 hP i hw hc k hk (C.2.2.2.2.2.2.1 _ hlk) (fun _ h9 => h9) (v := .int (w.1 d k 0)) (by rw [fs_at hk, fv, hO.1, if_pos hf]) hd (h p l e R s m args below meth c0 D cy ad A C H locs ls hP hS hl)
theorem b_getF {idx c k d a b : Nat} (hF : FL y.cls idx c k) (hO : Ob d c) (hf : ft c k = 1) (hg : gr d k = (a, b)) (hd : decode cc pc = .ok (.getfield idx, 3)) (h : Bk y cc nL rt dp (pc + 3) lv (vR a b :: st) w o w') : Bk y cc nL rt dp pc lv (vR d 0 :: st) w o w' := by
  intro p l e R s m args below meth c0 D cy ad A C H locs ls hP hS hl
  obtain ⟨Cn, T, hc, hin, hk, hlk⟩ := hF
  obtain ⟨i, hi, hw⟩ := wld_at (cy := cy) (ad := ad) (w := w) hO.2
  rw [ent_ob hO.1] at hw
  exact va_get C.1 C.2.1 C.2.2.2.2.2.2.1 hin C.2.2.2.2.2.1 C.2.2.2.2.2.2.2.1 hP i hw hc k hk (C.2.2.2.2.2.2.1 _ hlk) (fun _ h9 => h9) (v := .ref (ad (a, b))) (by rw [fs_at hk, fv, hO.1, hf, hg]; rfl) hd (h p l e R s m args below meth c0 D cy ad A C H locs ls hP hS hl)
theorem b_getM {idx c k d a b : Nat} (hq : w.2.2 d k = (a, b)) (hF : FL y.cls idx c k) (hO : Ob d c) (hf : ft c k = 2) (hd : decode cc pc = .ok (.getfield idx, 3)) (h : Bk y cc nL rt dp (pc + 3) lv (vR a b :: st) w o w') : Bk y cc nL rt dp pc lv (vR d 0 :: st) w o w' := by
  intro p l e R s m args below meth c0 D cy ad A C H locs ls hP hS hl
  obtain ⟨Cn, T, hc, hin, hk, hlk⟩ := hF
  obtain ⟨i, hi, hw⟩ := wld_at (cy := cy) (ad := ad) (w := w) hO.2
  rw [ent_ob hO.1] at hw
  exact va_get C.1 C.2.1 C.2.2.2.2.2.2.1 hin C.2.2.2.2.2.1 C.2.2.2.2.2.2.2.1 hP i hw hc k hk (C.2.2.2.2.2.2.1 _ hlk) (fun _ h9 => h9) (v := .ref (ad (a, b))) (by rw [fs_at hk, fv, hO.1, hf, hq]; rfl) hd (h p l e R s m args below meth c0 D cy ad A C H locs ls hP hS hl)
theorem b_putI0 {idx c k d : Nat} {x : Int32} {ty : FieldType} (hF : FW y.cls idx c k ty) (hO : Ob d c) (hf : ft c k = 0) (hn : narrow ty (.int x) = .int x) (hfit : fits ty (.int x) = true) (hd : decode cc pc = .ok (.putfield idx, 3)) (h : Bk y cc nL rt dp (pc + 3) lv st (sI w d k 0 x) o w') : Bk y cc nL rt dp pc lv (vI x :: vR d 0 :: st) w o w' := by
  intro p l e R s m args below meth c0 D cy ad A C H locs ls hP hS hl
  obtain ⟨Cn, T, ty0, hc, hin, hk, hlk, hty, hnm, hfin, hpd⟩ := hF
  obtain ⟨i, hi, hw⟩ := wld_at (cy := cy) (ad := ad) (w := w) hO.2
  rw [ent_ob hO.1] at hw
  have he : (wld cy ad w).set i (ad (d, 0), .inr (c, ((List.range (nf c)).map (fv ad w d)).set k (.int x))) = wld cy ad (sI w d k 0 x) := by
    rw [← wld_set (w' := sI w d k 0 x) hi (fun q' hq' hne => ent_sI q' (by rw [hO.1]; exact hf) (by rw [hO.1]; exact hk) hq' hne), ent_ob hO.1]
    congr 3
    refine congrArg (Prod.mk c) (fs_set (fun j hj => ?_))
    by_cases hjk : j = k
    · subst hjk
      rw [if_pos rfl, fv, hO.1, if_pos hf]
      simp [sI]
    · rw [if_neg hjk]
      have e1 : (sI w d k 0 x).1 d j = w.1 d j := by
        funext z
        simp [sI, hjk]
      simp only [fv, e1]
      rfl
  refine va_put C.1 C.2.1 C.2.2.2.2.2.2.1 hin ty0 hty hnm C.2.2.2.2.2.1 C.2.2.2.2.2.2.2.1 hP (wld_D C.2.2.2.2.2.2.2.2.1) hS i hw hc k hk (C.2.2.2.2.2.2.1 _ hlk) (fun _ h9 => h9) hfin hpd hn hfit (by rw [List.length_map, List.length_range]; exact hk) hd (fun H1 locs1 hP1 hD1 hS1 => ?_)
  replace hP1 : va_P D vwCl ((wld cy ad w).set i (ad (d, 0), .inr (c, ((List.range (nf c)).map (fv ad w d)).set k (.int x)))) H1 := hP1
  rw [he] at hP1
  exact h p l e _ s m args below meth c0 D cy ad A C H1 locs1 ls hP1 hS1 hl
theorem b_putI {idx c k d : Nat} {x : Int32} (hF : FW y.cls idx c k .int) (hO : Ob d c) (hf : ft c k = 0) (hd : decode cc pc = .ok (.putfield idx, 3)) (h : Bk y cc nL rt dp (pc + 3) lv st (sI w d k 0 x) o w') : Bk y cc nL rt dp pc lv (vI x :: vR d 0 :: st) w o w' := b_putI0 hF hO hf rfl rfl hd h
theorem b_putZ {idx c k d : Nat} {x : Int32} (hx : x &&& 1 = x) (hF : FW y.cls idx c k .boolean) (hO : Ob d c) (hf : ft c k = 0) (hd : decode cc pc = .ok (.putfield idx, 3)) (h : Bk y cc nL rt dp (pc + 3) lv st (sI w d k 0 x) o w') : Bk y cc nL rt dp pc lv (vI x :: vR d 0 :: st) w o w' := by
  have e : narrow .boolean (.int x) = .int x := by show Value.int (x &&& 1) = _; rw [hx]
  exact b_putI0 hF hO hf e (by rw [← e]; exact fits_narrow_boolean x) hd h
theorem b_putR {idx c k d a b : Nat} {ty : FieldType} (hF : FW y.cls idx c k ty) (hO : Ob d c) (hf : ft c k = 2) (hn : ∀ z, narrow ty (.ref z) = .ref z) (hfit : ∀ z, fits ty (.ref z) = true) (hd : decode cc pc = .ok (.putfield idx, 3)) (h : Bk y cc nL rt dp (pc + 3) lv st (sR w d k (a, b)) o w') : Bk y cc nL rt dp pc lv (vR a b :: vR d 0 :: st) w o w' := by
  intro p l e R s m args below meth c0 D cy ad A C H locs ls hP hS hl
  obtain ⟨Cn, T, ty0, hc, hin, hk, hlk, hty, hnm, hfin, hpd⟩ := hF
  obtain ⟨i, hi, hw⟩ := wld_at (cy := cy) (ad := ad) (w := w) hO.2
  rw [ent_ob hO.1] at hw
  have he : (wld cy ad w).set i (ad (d, 0), .inr (c, ((List.range (nf c)).map (fv ad w d)).set k (.ref (ad (a, b))))) = wld cy ad (sR w d k (a, b)) := by
    rw [← wld_set (w' := sR w d k (a, b)) hi (fun q' hq' hne => ent_sR q' hne), ent_ob hO.1]
    congr 3
    refine congrArg (Prod.mk c) (fs_set (fun j hj => ?_))
    by_cases hjk : j = k
    · subst hjk
      rw [if_pos rfl, fv, hO.1, hf]
      simp [sR]
    · rw [if_neg hjk]
      have e1 : (sR w d k (a, b)).2.2 d j = w.2.2 d j := by simp [sR, hjk]
      simp only [fv, e1]
      rfl
  refine va_put C.1 C.2.1 C.2.2.2.2.2.2.1 hin ty0 hty hnm C.2.2.2.2.2.1 C.2.2.2.2.2.2.2.1 hP (wld_D C.2.2.2.2.2.2.2.2.1) hS i hw hc k hk (C.2.2.2.2.2.2.1 _ hlk) (fun _ h9 => h9) hfin hpd (hn _) (hfit _) (by rw [List.length_map, List.length_range]; exact hk) hd (fun H1 locs1 hP1 hD1 hS1 => ?_)
  replace hP1 : va_P D vwCl ((wld cy ad w).set i (ad (d, 0), .inr (c, ((List.range (nf c)).map (fv ad w d)).set k (.ref (ad (a, b)))))) H1 := hP1
  rw [he] at hP1
  exact h p l e _ s m args below meth c0 D cy ad A C H1 locs1 ls hP1 hS1 hl
theorem b_iald {k d n : Nat} {i : Int32} (hA : Ar d k 0 n) {j0 : Nat} (hi : ¬ (i < 0 ∨ n ≤ i.toNatClampNeg)) (hj0 : i.toNatClampNeg = j0) (hd : decode cc pc = .ok (.iaload, 1)) (h : Bk y cc nL rt dp (pc + 1) lv (vI (w.1 d k j0) :: st) w o w') : Bk y cc nL rt dp pc lv (vI i :: vR d (k + 1) :: st) w o w' := by
  subst hj0
  intro p l e R s m args below meth c0 D cy ad A C H locs ls hP hS hl
  obtain ⟨j, hj, hw⟩ := wld_at (cy := cy) (ad := ad) (w := w) hA.2
  rw [ent_ar hA.1, cn_i hA.1 (by decide) (by decide)] at hw
  exact va_iald C.1 C.2.1 C.2.2.2.2.2.2.2.1 hP j 0 hw rfl hi hd (h p l e R s m args below meth c0 D cy ad A C H locs ls hP hS hl)
theorem b_cald {k d n : Nat} {i : Int32} (hA : Ar d k 2 n) {j0 : Nat} (hi : ¬ (i < 0 ∨ n ≤ i.toNatClampNeg)) (hj0 : i.toNatClampNeg = j0) (hd : decode cc pc = .ok (.caload, 1)) (h : Bk y cc nL rt dp (pc + 1) lv (vI (w.1 d k j0) :: st) w o w') : Bk y cc nL rt dp pc lv (vI i :: vR d (k + 1) :: st) w o w' := by
  subst hj0
  intro p l e R s m args below meth c0 D cy ad A C H locs ls hP hS hl
  obtain ⟨j, hj, hw⟩ := wld_at (cy := cy) (ad := ad) (w := w) hA.2
  rw [ent_ar hA.1, cn_i hA.1 (by decide) (by decide)] at hw
  exact va_cald C.1 C.2.1 C.2.2.2.2.2.2.2.1 hP j 2 hw rfl hi hd (h p l e R s m args below meth c0 D cy ad A C H locs ls hP hS hl)
theorem b_zald {k d n : Nat} {i : Int32} (hA : Ar d k 3 n) {j0 : Nat} (hi : ¬ (i < 0 ∨ n ≤ i.toNatClampNeg)) (hj0 : i.toNatClampNeg = j0) (hd : decode cc pc = .ok (.baload, 1)) (h : Bk y cc nL rt dp (pc + 1) lv (vI (w.1 d k j0) :: st) w o w') : Bk y cc nL rt dp pc lv (vI i :: vR d (k + 1) :: st) w o w' := by
  subst hj0
  intro p l e R s m args below meth c0 D cy ad A C H locs ls hP hS hl
  obtain ⟨j, hj, hw⟩ := wld_at (cy := cy) (ad := ad) (w := w) hA.2
  rw [ent_ar hA.1, cn_i hA.1 (by decide) (by decide)] at hw
  exact va_zald C.1 C.2.1 C.2.2.2.2.2.2.2.1 hP j 3 hw rfl hi hd (h p l e R s m args below meth c0 D cy ad A C H locs ls hP hS hl)
theorem b_lald {k d n : Nat} {i : Int32} (hA : Ar d k 1 n) {j0 : Nat} (hi : ¬ (i < 0 ∨ n ≤ i.toNatClampNeg)) (hj0 : i.toNatClampNeg = j0) (hd : decode cc pc = .ok (.laload, 1)) (h : Bk y cc nL rt dp (pc + 1) lv (vL (w.2.1 d k j0) :: st) w o w') : Bk y cc nL rt dp pc lv (vI i :: vR d (k + 1) :: st) w o w' := by
  subst hj0
  intro p l e R s m args below meth c0 D cy ad A C H locs ls hP hS hl
  obtain ⟨j, hj, hw⟩ := wld_at (cy := cy) (ad := ad) (w := w) hA.2
  rw [ent_ar hA.1, cn_l hA.1] at hw
  exact va_lald C.1 C.2.1 C.2.2.2.2.2.2.2.1 hP j 1 hw rfl hi hd (h p l e R s m args below meth c0 D cy ad A C H locs ls hP hS hl)
theorem b_aald {k d n : Nat} {i : Int32} (hA : Ar d k 4 n) (hi : ¬ (i < 0 ∨ n ≤ i.toNatClampNeg)) (hd : decode cc pc = .ok (.aaload, 1)) (h : Bk y cc nL rt dp (pc + 1) lv (vR (rb d + i.toNatClampNeg) 0 :: st) w o w') : Bk y cc nL rt dp pc lv (vI i :: vR d (k + 1) :: st) w o w' := by
  intro p l e R s m args below meth c0 D cy ad A C H locs ls hP hS hl
  obtain ⟨j, hj, hw⟩ := wld_at (cy := cy) (ad := ad) (w := w) hA.2
  rw [ent_ar hA.1, cn_r hA.1] at hw
  exact va_aldq C.1 C.2.1 C.2.2.2.2.2.2.2.1 hP j 4 hw rfl hi hd (h p l e R s m args below meth c0 D cy ad A C H locs ls hP hS hl)
theorem b_alen {k d t n : Nat} {v : Int32} (hA : Ar d k t n) (ht : t < 5) (hv : Int32.ofNat n = v) (hd : decode cc pc = .ok (.arraylength, 1)) (h : Bk y cc nL rt dp (pc + 1) lv (vI v :: st) w o w') : Bk y cc nL rt dp pc lv (vR d (k + 1) :: st) w o w' := by
  intro p l e R s m args below meth c0 D cy ad A C H locs ls hP hS hl
  obtain ⟨j, hj, hw⟩ := wld_at (cy := cy) (ad := ad) (w := w) hA.2
  rw [ent_ar hA.1] at hw
  have K := h p l e R s m args below meth c0 D cy ad A C H locs ls hP hS hl
  match t, ht with
  | 0, _ => exact va_alen C.1 C.2.1 C.2.2.2.2.2.2.2.1 hP j 0 hw rfl hv hd K
  | 1, _ => exact va_alen C.1 C.2.1 C.2.2.2.2.2.2.2.1 hP j 1 hw rfl hv hd K
  | 2, _ => exact va_alen C.1 C.2.1 C.2.2.2.2.2.2.2.1 hP j 2 hw rfl hv hd K
  | 3, _ => exact va_alen C.1 C.2.1 C.2.2.2.2.2.2.2.1 hP j 3 hw rfl hv hd K
  | 4, _ => exact va_alen C.1 C.2.1 C.2.2.2.2.2.2.2.1 hP j 4 hw rfl hv hd K
theorem ar_ft {d k t n : Nat} (hA : Ar d k t n) : ft (kc d) k ≠ 0 ∨ nf (kc d) ≤ k := by
  rcases lay_ft _ hA.2 with z | z | z
  · exact absurd z (Nat.succ_ne_zero k)
  · exact Or.inl z
  · exact Or.inr z
theorem wld_sA {cy : Nat → ClassId} {ad : Nat × Nat → Nat} {d k t n i : Nat} {f : Nat → Int32} (hA : Ar d k t n) (h1 : t ≠ 1) (h4 : t ≠ 4) (hi : lay[i]? = some (d, k + 1)) : (wld cy ad w).set i (ad (d, k + 1), .inl (cy t, n, .inl f)) = wld cy ad (sA w d k f) := by
  rw [← wld_set (w' := sA w d k f) hi (fun q' hq' hne => ent_sAo q' (ar_ft hA) hne), ent_ar hA.1, cn_i hA.1 h1 h4]
  simp [sA]
theorem b_iast {k d n : Nat} {i x : Int32} (hA : Ar d k 0 n) {j0 : Nat} (hi : ¬ (i < 0 ∨ n ≤ i.toNatClampNeg)) (hj0 : i.toNatClampNeg = j0) (hd : decode cc pc = .ok (.iastore, 1)) (h : Bk y cc nL rt dp (pc + 1) lv st (sI w d k j0 x) o w') : Bk y cc nL rt dp pc lv (vI x :: vI i :: vR d (k + 1) :: st) w o w' := by
  subst hj0
  intro p l e R s m args below meth c0 D cy ad A C H locs ls hP hS hl
  obtain ⟨j, hj, hw⟩ := wld_at (cy := cy) (ad := ad) (w := w) hA.2
  rw [ent_ar hA.1, cn_i hA.1 (by decide) (by decide)] at hw
  refine va_iast C.1 C.2.1 C.2.2.2.2.2.2.2.1 hP (wld_D C.2.2.2.2.2.2.2.2.1) hS j 0 hw rfl hi hd (fun H1 locs1 hP1 _ hS1 => ?_)
  rw [wld_sA hA (by decide) (by decide) hj, ← sI_sA] at hP1
  exact h p l e _ s m args below meth c0 D cy ad A C H1 locs1 ls hP1 hS1 hl
theorem b_cast {k d n : Nat} {i x : Int32} (hA : Ar d k 2 n) {j0 : Nat} (hi : ¬ (i < 0 ∨ n ≤ i.toNatClampNeg)) (hj0 : i.toNatClampNeg = j0) (hx : x.toUInt32.toUInt16.toUInt32.toInt32 = x) (hd : decode cc pc = .ok (.castore, 1)) (h : Bk y cc nL rt dp (pc + 1) lv st (sI w d k j0 x) o w') : Bk y cc nL rt dp pc lv (vI x :: vI i :: vR d (k + 1) :: st) w o w' := by
  subst hj0
  intro p l e R s m args below meth c0 D cy ad A C H locs ls hP hS hl
  obtain ⟨j, hj, hw⟩ := wld_at (cy := cy) (ad := ad) (w := w) hA.2
  rw [ent_ar hA.1, cn_i hA.1 (by decide) (by decide)] at hw
  refine va_cast C.1 C.2.1 C.2.2.2.2.2.2.2.1 hP (wld_D C.2.2.2.2.2.2.2.2.1) hS j 2 hw rfl hi hd (fun H1 locs1 hP1 _ hS1 => ?_)
  rw [vp_nar_char, hx, wld_sA hA (by decide) (by decide) hj, ← sI_sA] at hP1
  exact h p l e _ s m args below meth c0 D cy ad A C H1 locs1 ls hP1 hS1 hl
theorem b_zast {k d n : Nat} {i x : Int32} (hA : Ar d k 3 n) {j0 : Nat} (hi : ¬ (i < 0 ∨ n ≤ i.toNatClampNeg)) (hj0 : i.toNatClampNeg = j0) (hx : x &&& 1 = x) (hd : decode cc pc = .ok (.bastore, 1)) (h : Bk y cc nL rt dp (pc + 1) lv st (sI w d k j0 x) o w') : Bk y cc nL rt dp pc lv (vI x :: vI i :: vR d (k + 1) :: st) w o w' := by
  subst hj0
  intro p l e R s m args below meth c0 D cy ad A C H locs ls hP hS hl
  obtain ⟨j, hj, hw⟩ := wld_at (cy := cy) (ad := ad) (w := w) hA.2
  rw [ent_ar hA.1, cn_i hA.1 (by decide) (by decide)] at hw
  refine va_zast C.1 C.2.1 C.2.2.2.2.2.2.2.1 hP (wld_D C.2.2.2.2.2.2.2.2.1) hS j 3 hw rfl hi hd (fun H1 locs1 hP1 _ hS1 => ?_)
  rw [show vp_nar .boolean x = x from hx, wld_sA hA (by decide) (by decide) hj, ← sI_sA] at hP1
  exact h p l e _ s m args below meth c0 D cy ad A C H1 locs1 ls hP1 hS1 hl
theorem b_last {k d n : Nat} {i : Int32} {x : Int64} (hA : Ar d k 1 n) {j0 : Nat} (hi : ¬ (i < 0 ∨ n ≤ i.toNatClampNeg)) (hj0 : i.toNatClampNeg = j0) (hd : decode cc pc = .ok (.lastore, 1)) (h : Bk y cc nL rt dp (pc + 1) lv st (sL w d k j0 x) o w') : Bk y cc nL rt dp pc lv (vL x :: vI i :: vR d (k + 1) :: st) w o w' := by
  subst hj0
  intro p l e R s m args below meth c0 D cy ad A C H locs ls hP hS hl
  obtain ⟨j, hj, hw⟩ := wld_at (cy := cy) (ad := ad) (w := w) hA.2
  rw [ent_ar hA.1, cn_l hA.1] at hw
  refine va_last C.1 C.2.1 C.2.2.2.2.2.2.2.1 hP (wld_D C.2.2.2.2.2.2.2.2.1) hS j 1 hw rfl hi hd (fun H1 locs1 hP1 _ hS1 => ?_)
  have he : (wld cy ad w).set j (ad (d, k + 1), .inl (cy 1, n, .inr (.inl (vp_updL (w.2.1 d k) i.toNatClampNeg x)))) = wld cy ad (sL w d k i.toNatClampNeg x) := by
    rw [← wld_set (w' := sL w d k i.toNatClampNeg x) hj (fun q' hq' hne => ent_sLo q' hne), ent_ar hA.1, cn_l hA.1]
    have e2 : vp_updL (w.2.1 d k) i.toNatClampNeg x = (sL w d k i.toNatClampNeg x).2.1 d k := by
      funext z
      simp [sL, vp_updL]
    rw [e2]
  rw [he] at hP1
  exact h p l e _ s m args below meth c0 D cy ad A C H1 locs1 ls hP1 hS1 hl
/-- System.arraycopy of ints -/
theorem b_copy {idx k d n k2 d2 n2 : Nat} {sp dq nn : Int32} (hA : Ar d k 0 n) (hB : Ar d2 k2 0 n2) (hl1 : Cond.methodLink y.cls idx arraycopyName ∈ tG) (hl2 : Cond.native arraycopyName ∈ tG) (hl3 : Cond.static arraycopyName ∈ tG) (hl4 : Cond.initialized "java/lang/System" ∈ tG)
    (h1 : ¬ sp < 0) (h2 : ¬ dq < 0) (h3 : ¬ nn < 0) (h4 : sp.toNatClampNeg + nn.toNatClampNeg ≤ n) (h5 : dq.toNatClampNeg + nn.toNatClampNeg ≤ n2) (hr : st = []) (hdp : 1 ≤ dp) (hd : decode cc pc = .ok (.invokestatic idx, 3))
    (h : Bk y cc nL rt dp (pc + 3) lv st (sA w d2 k2 (va_cpy (w.1 d k) (w.1 d2 k2) sp.toNatClampNeg dq.toNatClampNeg nn.toNatClampNeg)) o w') : Bk y cc nL rt dp pc lv (vI nn :: vI dq :: vR d2 (k2 + 1) :: vI sp :: vR d (k + 1) :: st) w o w' := by
  subst hr
  intro p l e R s m args below meth c0 D cy ad A C H locs ls hP hS hl
  obtain ⟨j, hj, hw⟩ := wld_at (cy := cy) (ad := ad) (w := w) hA.2
  obtain ⟨j2, hj2, hw2⟩ := wld_at (cy := cy) (ad := ad) (w := w) hB.2
  rw [ent_ar hA.1, cn_i hA.1 (by decide) (by decide)] at hw
  rw [ent_ar hB.1, cn_i hB.1 (by decide) (by decide)] at hw2
  have hloc : (List.map (fun v : Value => v.category) (List.map (cv ad) ([] : List AV))).sum + (nativeFrameWords "java/lang/System" "arraycopy" 5 + 11) ≤ R.locals := by
    have h8 : nativeFrameWords "java/lang/System" "arraycopy" 5 + 11 ≤ 40 := by decide
    have h9 := C.2.2.2.2.2.2.2.2.2.2.1
    simp only [List.map_nil, List.sum_nil]
    omega
  refine va_copyi C.1 C.2.1 (C.2.2.1.trans hl.1.symm) C.2.2.2.2.2.1 (C.2.2.2.2.2.2.1 _ hl1) (C.2.2.2.2.2.2.1 _ hl2) (C.2.2.2.2.2.2.1 _ hl3) (C.2.2.2.2.2.2.1 _ hl4) C.2.2.2.2.2.2.2.1 hP (wld_D C.2.2.2.2.2.2.2.2.1) hS j j2 0 0 hw hw2 rfl rfl rfl h1 h2 h3 h4 h5 (fun _ _ => rfl) (Nat.le_trans hdp C.2.2.2.2.2.2.2.2.2.1) hloc hd (fun H1 locs1 hP1 _ hS1 => ?_)
  rw [wld_sA hB (by decide) (by decide) hj2] at hP1
  exact h p l e _ s m args below meth c0 D cy ad A C H1 locs1 ls hP1 hS1 hl
theorem cat_sum {ad : Nat × Nat → Nat} : ∀ (l : List AV), ((l.map (cv ad)).map (fun v => v.category)).sum = (l.map (fun v => if isL v then 2 else 1)).sum
  | [] => rfl
  | v :: l => by
    simp only [List.map_cons, List.sum_cons, cat_sum l]
    congr 1
    match v with
    | .inl x => rfl
    | .inr (.inl x) => rfl
    | .inr (.inr none) => rfl
    | .inr (.inr (some q)) => rfl
theorem b_mmin {idx : Nat} {x z : Int32} (hl1 : Cond.methodLink y.cls idx Lib.Math.min.name ∈ tG) (hst : (st.map (fun v => if isL v then 2 else 1)).sum ≤ 8) (hdp : 1 ≤ dp) (hd : decode cc pc = .ok (.invokestatic idx, 3)) (h : Bk y cc nL rt dp (pc + 3) lv (vI (jmin x z) :: st) w o w') : Bk y cc nL rt dp pc lv (vI z :: vI x :: st) w o w' := by
  intro p l e R s m args below meth c0 D cy ad A C H locs ls hP hS hl
  have h9 := C.2.2.2.2.2.2.2.2.2.2.1
  have hloc : (List.map (fun v : Value => v.category) (List.map (cv ad) st)).sum + 13 ≤ R.locals := by rw [cat_sum]; omega
  exact va_mmin C.1 C.2.1 (C.2.2.1.trans hl.1.symm) C.2.2.2.2.2.1 (C.2.2.2.2.2.2.1 _ hl1) (C.2.2.2.2.2.2.1 _ mSmin) (C.2.2.2.2.2.2.1 _ mI) (C.2.2.2.2.2.2.1 _ mCmin) (Nat.le_trans hdp C.2.2.2.2.2.2.2.2.2.1) hloc (Nat.zero_le _) (Nat.zero_le _) hd (h p l e R s m args below meth c0 D cy ad A C H locs ls hP hS hl)
theorem b_mmax {idx : Nat} {x z : Int32} (hl1 : Cond.methodLink y.cls idx Lib.Math.max.name ∈ tG) (hst : (st.map (fun v => if isL v then 2 else 1)).sum ≤ 8) (hdp : 1 ≤ dp) (hd : decode cc pc = .ok (.invokestatic idx, 3)) (h : Bk y cc nL rt dp (pc + 3) lv (vI (jmax x z) :: st) w o w') : Bk y cc nL rt dp pc lv (vI z :: vI x :: st) w o w' := by
  intro p l e R s m args below meth c0 D cy ad A C H locs ls hP hS hl
  have h9 := C.2.2.2.2.2.2.2.2.2.2.1
  have hloc : (List.map (fun v : Value => v.category) (List.map (cv ad) st)).sum + 13 ≤ R.locals := by rw [cat_sum]; omega
  exact va_mmax C.1 C.2.1 (C.2.2.1.trans hl.1.symm) C.2.2.2.2.2.1 (C.2.2.2.2.2.2.1 _ hl1) (C.2.2.2.2.2.2.1 _ mSmax) (C.2.2.2.2.2.2.1 _ mI) (C.2.2.2.2.2.2.1 _ mCmax) (Nat.le_trans hdp C.2.2.2.2.2.2.2.2.2.1) hloc (Nat.zero_le _) (Nat.zero_le _) hd (h p l e R s m args below meth c0 D cy ad A C H locs ls hP hS hl)
/-- ends -/
theorem b_iret {x : Int32} (hr : rt = some .int) (hd : decode cc pc = .ok (.ireturn, 1)) : Bk y cc nL rt dp pc lv [vI x] w (some (vI x)) w := by
  intro p l e R s m args below meth c0 D cy ad A C H locs ls hP hS hl
  have hlocks := C.2.2.2.2.1
  exact W.iret (v := x) C.1 C.2.1 (C.2.2.2.1.trans hr) (fun t ht _ => ⟨rfl, by rw [ht]; exact hP, hS.F ht⟩) hS.2.2 hd hlocks
theorem b_zret0 {x : Int32} {ty : FieldType} (hr : rt = some ty) (hn : narrow ty (.int x) = .int x) (hd : decode cc pc = .ok (.ireturn, 1)) : Bk y cc nL rt dp pc lv [vI x] w (some (vI x)) w := by
  intro p l e R s m args below meth c0 D cy ad A C H locs ls hP hS hl
  have hlocks := C.2.2.2.2.1
  exact W.zret (v := x) C.1 C.2.1 (C.2.2.2.1.trans hr) hn (fun t ht _ => ⟨rfl, by rw [ht]; exact hP, hS.F ht⟩) hS.2.2 hd hlocks
theorem b_zret {x : Int32} (hr : rt = some .boolean) (hx : x &&& 1 = x) (hd : decode cc pc = .ok (.ireturn, 1)) : Bk y cc nL rt dp pc lv [vI x] w (some (vI x)) w := b_zret0 hr (by show Value.int (x &&& 1) = _; rw [hx]) hd
theorem b_cret {x : Int32} (hr : rt = some .char) (hx : x.toUInt32.toUInt16.toUInt32.toInt32 = x) (hd : decode cc pc = .ok (.ireturn, 1)) : Bk y cc nL rt dp pc lv [vI x] w (some (vI x)) w := b_zret0 hr (by show Value.int (x.toUInt32.toUInt16.toUInt32.toInt32) = _; rw [hx]) hd
theorem b_vret (hr : rt = none) (hd : decode cc pc = .ok (.return_, 1)) : Bk y cc nL rt dp pc lv [] w none w := by
  intro p l e R s m args below meth c0 D cy ad A C H locs ls hP hS hl
  have hlocks := C.2.2.2.2.1
  exact W.vret C.1 C.2.1 (C.2.2.2.1.trans hr) (fun t ht _ => ⟨rfl, by rw [ht]; exact hP, hS.F ht⟩) hS.2.2 hd hlocks
/-- calls -/
def MO (y2 : MethodName) (cc2 : ByteArray) (nL2 : Nat) (rt2 : Option FieldType) (n : Nat) : Prop := Cond.code y2 cc2 nL2 rt2 ∈ tG ∧ Cond.initialized y2.cls ∈ tG ∧ (y2.cls ≠ "java/lang/invoke/MethodHandle" ∧ y2.cls ≠ "java/lang/invoke/VarHandle" ∧ (parseMethodDescriptor y2.desc).map (fun d => d.parameters.length) = some n)
def MV (y2 : MethodName) (cc2 : ByteArray) (nL2 : Nat) (rt2 : Option FieldType) (n c : Nat) : Prop := MO y2 cc2 nL2 rt2 n ∧ Cond.instanceMethod y2 ∈ tG ∧ Cond.selects y2.cls y2 y2 ∈ tG ∧ ∃ T N, vwCl[c]? = some (y2.cls, T, N)
def MS (y2 : MethodName) (cc2 : ByteArray) (nL2 : Nat) (rt2 : Option FieldType) (n : Nat) : Prop := MO y2 cc2 nL2 rt2 n ∧ Cond.static y2 ∈ tG
theorem goodG {x : Cond} (h : x ∈ tG) : GoodIn tG (x :: tG) := by
  intro z hz
  have hm : z ∈ tG := (List.mem_cons.mp hz).elim (fun q => q ▸ h) id
  exact ⟨hm, good_of_word (List.mem_filter.mp hm).2⟩
theorem cat_len {ad : Nat × Nat → Nat} (l : List AV) : (l.map (cv ad)).length = l.length := List.length_map _
theorem b_run {S : List AV} {o2 : Option AV} {w1 : Mem} {st2 : List AV}
    (hrun : ∀ (p : Program) (l : Launch) (e : Env) (R : Room) (s : State) (m : MethodId) (args : Array Value) (below : List Frame) (meth : Method) (c : Code) (D : va_G) (cy : Nat → ClassId) (ad : Nat × Nat → Nat) (A : Nat → Prop), Cx y cc nL rt dp p R s m args meth c D cy ad A → ∀ (H : Heap) (locs : List Loc) (ls : Array Slot), va_P D vwCl (wld cy ad w) H → va_S A s.heap H locs → lv_has ls nL (lc ad lv) →
      ∃ a, va_Run p l e R s m args below meth c H locs 0 0 0 0 (F0 m pc ls (S.map (cv ad))) (st.map (cv ad)) (QQ D cy ad A o2 w1 a) A)
    (h2 : ∀ ad : Nat × Nat → Nat, (o2.map (cv ad)).toList ++ st.map (cv ad) = st2.map (cv ad)) (h : Bk y cc nL rt dp (pc + 3) lv st2 w1 o w') : Bk y cc nL rt dp pc lv S w o w' := by
  intro p l e R s m args below meth c0 D cy ad A C H locs ls hP hS hl
  obtain ⟨a, hr⟩ := hrun p l e R s m args below meth c0 D cy ad A C H locs ls hP hS hl
  intro T hT X
  obtain ⟨v, st₀, t, T', L, h0, X', hL, e1, e2, ⟨hv, hP1, hz, hk⟩, go⟩ := hr T hT X
  cases hv
  rw [h0] at hz hk
  have hS1 : va_S A s.heap T'.heap (locs ++ L) := ⟨Nat.le_trans hS.1 (by rw [e1]; exact hz), fun q h1 h2 => by rw [e1, hk q (Nat.lt_of_lt_of_le h1 hS.1) h2]; exact hS.2.1 q h1 h2, fun q hq => by
    rcases List.mem_append.mp hq with z | z
    · exact hS.2.2 q z
    · exact hL q z⟩
  rw [← e1] at hP1
  have K := h p l e R s m args below meth c0 D cy ad A C T'.heap (locs ++ L) ls hP1 hS1 hl
  rw [← h2 ad] at K
  obtain ⟨t2, a1, b1⟩ := K T' rfl X'
  exact ⟨t2, go t2 a1, b1⟩
theorem blind {as : List AV} {D : va_G} {cy : Nat → ClassId} {ad : Nat × Nat → Nat} : FrameBlind (va_Pc (as.map (cv ad)) (fun U => va_P D vwCl (wld cy ad w) U.heap ∧ va_K D vwCl (tysL cy) U ∧ NW U)) := fun a U g mk q => by
  obtain ⟨q0, qP, qK, qN⟩ := q
  exact ⟨q0, qP, va_K.moved (u := U) (U := U.calling g mk a) (Vm.Alike.refl U.vm) qK, NW.same (u := U) (U := U.calling g mk a) rfl qN⟩
theorem b_callV0 {y2 : MethodName} {cc2 : ByteArray} {nL2 n c d idx : Nat} {rt2 : Option FieldType} {dp2 : Nat} {as S st2 : List AV} {o2 : Option AV} {w1 : Mem} (hM : MV y2 cc2 nL2 rt2 n c) (hlk : Cond.methodLink y.cls idx y2 ∈ tG) (hO : Ob d c) (hs : Sp y2 cc2 nL2 rt2 dp2 (vR d 0 :: as) w o2 w1)
    (hn : as.length = n) (hdp : dp2 + 1 ≤ dp) (hL : nL2 ≤ 21) (hst : (st.map (fun v => if isL v then 2 else 1)).sum ≤ 8) (hS0 : S = as.reverse ++ vR d 0 :: st) (hd : decode cc pc = .ok (.invokevirtual idx, 3))
    (h2 : ∀ ad : Nat × Nat → Nat, (o2.map (cv ad)).toList ++ st.map (cv ad) = st2.map (cv ad)) (h : Bk y cc nL rt dp (pc + 3) lv st2 w1 o w') : Bk y cc nL rt dp pc lv S w o w' := by
  refine b_run (st := st) (fun p l e R s m args below meth c0 D cy ad A C H locs ls hP hS hl => ⟨(Value.ref (ad (d, 0)) :: as.map (cv ad)).toArray, ?_⟩) h2 h
  obtain ⟨⟨hc, hi, hnm⟩, hin, hse, T, N, hcl⟩ := hM
  obtain ⟨j, hj, hw⟩ := wld_at (cy := cy) (ad := ad) (w := w) hO.2
  rw [ent_ob hO.1] at hw
  have hts := C.2.2.2.2.2.2.1
  have hdp1 : 40 * dp2 + 40 ≤ 40 * dp := by omega
  have hrl := C.2.2.2.2.2.2.2.2.2
  refine va_runV (n := n) (C := y2.cls) (bytes := cc2) (maxL := nL2) (ret := rt2) (b := ad (d, 0)) (As := as.map (cv ad)) (rest := st.map (cv ad)) (Ts := tG) (own := y.cls) (index := idx) (cc := cc) (nL := nL) ⟨C.1, C.2.1, C.2.2.1, C.2.2.2.2.2.1, hts⟩ (hs l D cy ad A C.2.2.2.2.2.2.2.2.1) ⟨callB_of n hts (goodG hc) rfl rfl rfl (hts _ hi) (hts _ hlk) hnm ⟨?_, ?_⟩, hts _ hin, hts _ hse⟩
    ⟨blind, va_recv C.2.2.2.2.2.2.2.1 hP hcl hw, fun U hU hW => ⟨rfl, by rw [hU]; exact hP, va_K.moved hW.alike C.2.2.2.2.2.2.2.1, NW.warm hW C.2.2.2.2.2.2.2.2.2.2.2⟩⟩ rfl (by rw [cat_len]; exact hn) hl.1 ?_ ?_ hd ⟨Nat.zero_le _, Nat.zero_le _⟩
  · exact Nat.le_trans hdp hrl.1
  · show 8 + (nL2 + 11) + 40 * dp2 ≤ R.locals
    have := hrl.2.1
    omega
  · rw [hS0]
    show List.map (cv ad) _ = _
    rw [List.map_append, List.map_reverse]; rfl
  · exact lv_room (by rw [cat_sum]; exact hst)
theorem b_callS0 {y2 : MethodName} {cc2 : ByteArray} {nL2 n idx : Nat} {rt2 : Option FieldType} {dp2 : Nat} {as S st2 : List AV} {o2 : Option AV} {w1 : Mem} (hM : MS y2 cc2 nL2 rt2 n) (hlk : Cond.methodLink y.cls idx y2 ∈ tG) (hs : Sp y2 cc2 nL2 rt2 dp2 as w o2 w1)
    (hn : as.length = n) (hdp : dp2 + 1 ≤ dp) (hL : nL2 ≤ 21) (hst : (st.map (fun v => if isL v then 2 else 1)).sum ≤ 8) (hS0 : S = as.reverse ++ st) (hd : decode cc pc = .ok (.invokestatic idx, 3))
    (h2 : ∀ ad : Nat × Nat → Nat, (o2.map (cv ad)).toList ++ st.map (cv ad) = st2.map (cv ad)) (h : Bk y cc nL rt dp (pc + 3) lv st2 w1 o w') : Bk y cc nL rt dp pc lv S w o w' := by
  refine b_run (st := st) (fun p l e R s m args below meth c0 D cy ad A C H locs ls hP hS hl => ⟨(as.map (cv ad)).toArray, ?_⟩) h2 h
  obtain ⟨⟨hc, hi, hnm⟩, hstt⟩ := hM
  have hts := C.2.2.2.2.2.2.1
  have hdp1 : 40 * dp2 + 40 ≤ 40 * dp := by omega
  have hrl := C.2.2.2.2.2.2.2.2.2
  refine va_runS (n := n) (bytes := cc2) (maxL := nL2) (ret := rt2) (As := as.map (cv ad)) (rest := st.map (cv ad)) (Ts := tG) (own := y.cls) (index := idx) (cc := cc) (nL := nL) ⟨C.1, C.2.1, C.2.2.1, C.2.2.2.2.2.1, hts⟩ (hs l D cy ad A C.2.2.2.2.2.2.2.2.1) ⟨callB_of n hts (goodG hc) rfl rfl rfl (hts _ hi) (hts _ hlk) hnm ⟨?_, ?_⟩, hts _ hstt⟩
    ⟨blind, fun U hU hW => ⟨rfl, by rw [hU]; exact hP, va_K.moved hW.alike C.2.2.2.2.2.2.2.1, NW.warm hW C.2.2.2.2.2.2.2.2.2.2.2⟩⟩ rfl (by rw [cat_len]; exact hn) hl.1 ?_ ?_ hd ⟨Nat.zero_le _, Nat.zero_le _⟩
  · exact Nat.le_trans hdp hrl.1
  · show 8 + (nL2 + 11) + 40 * dp2 ≤ R.locals
    have := hrl.2.1
    omega
  · rw [hS0]
    show List.map (cv ad) _ = _
    rw [List.map_append, List.map_reverse]
  · exact lv_room (by rw [cat_sum]; exact hst)
theorem b_callN {y2 : MethodName} {cc2 : ByteArray} {nL2 n idx : Nat} {rt2 : Option FieldType} {dp2 : Nat} {as S : List AV} {r : Int32} {w1 : Mem} {host : String} (hM : MS y2 cc2 nL2 rt2 n) (hlk : ∀ U, NW U → va_Nw (.methodLinkNest y.cls idx y2 host) U) (hs : Sp y2 cc2 nL2 rt2 dp2 as w (some (vI r)) w1)
    (hn : as.length = n) (hdp : dp2 + 1 ≤ dp) (hL : nL2 ≤ 21) (hst : (st.map (fun v => if isL v then 2 else 1)).sum ≤ 8) (hS0 : S = as.reverse ++ st) (hd : decode cc pc = .ok (.invokestatic idx, 3))
    (h : Bk y cc nL rt dp (pc + 3) lv (vI r :: st) w1 o w') : Bk y cc nL rt dp pc lv S w o w' := by
  refine b_run (st := st) (o2 := some (vI r)) (fun p l e R s m args below meth c0 D cy ad A C H locs ls hP hS hl => ⟨(as.map (cv ad)).toArray, ?_⟩) (fun _ => rfl) h
  obtain ⟨⟨hc, hi, hnm⟩, hstt⟩ := hM
  have hts := C.2.2.2.2.2.2.1
  have hdp1 : 40 * dp2 + 40 ≤ 40 * dp := by omega
  have hrl := C.2.2.2.2.2.2.2.2.2
  refine va_runSN (n := n) (bytes := cc2) (maxL := nL2) (ret := rt2) (As := as.map (cv ad)) (rest := st.map (cv ad)) (Ts := tG) (own := y.cls) (host := host) (index := idx) (cc := cc) (nL := nL) ⟨C.1, C.2.1, C.2.2.1, C.2.2.2.2.2.1, hts⟩ (hs l D cy ad A C.2.2.2.2.2.2.2.2.1) ⟨va_cnB n hts (goodG hc) rfl rfl rfl (hlk _ hrl.2.2) (hts _ hi) hnm ⟨?_, ?_⟩, hts _ hstt, trivial⟩
    ⟨blind, fun U hU hW => ⟨rfl, by rw [hU]; exact hP, va_K.moved hW.alike C.2.2.2.2.2.2.2.1, NW.warm hW C.2.2.2.2.2.2.2.2.2.2.2⟩⟩ rfl (by rw [cat_len]; exact hn) hl.1 ?_ ?_ hd ⟨Nat.zero_le _, Nat.zero_le _⟩
  · exact Nat.le_trans hdp hrl.1
  · show 8 + (nL2 + 11) + 40 * dp2 ≤ R.locals
    have := hrl.2.1
    omega
  · rw [hS0]
    show List.map (cv ad) _ = _
    rw [List.map_append, List.map_reverse]
  · exact lv_room (by rw [cat_sum]; exact hst)
/-- the four forms: an int answer or none, of an object or static -/
theorem b_callVi {y2 : MethodName} {cc2 : ByteArray} {nL2 n c d idx : Nat} {rt2 : Option FieldType} {dp2 : Nat} {as S : List AV} {r : Int32} {w1 : Mem} (hM : MV y2 cc2 nL2 rt2 n c) (hlk : Cond.methodLink y.cls idx y2 ∈ tG) (hO : Ob d c) (hs : Sp y2 cc2 nL2 rt2 dp2 (vR d 0 :: as) w (some (vI r)) w1)
    (hn : as.length = n) (hdp : dp2 + 1 ≤ dp) (hL : nL2 ≤ 21) (hst : (st.map (fun v => if isL v then 2 else 1)).sum ≤ 8) (hS0 : S = as.reverse ++ vR d 0 :: st) (hd : decode cc pc = .ok (.invokevirtual idx, 3)) (h : Bk y cc nL rt dp (pc + 3) lv (vI r :: st) w1 o w') : Bk y cc nL rt dp pc lv S w o w' :=
  b_callV0 hM hlk hO hs hn hdp hL hst hS0 hd (fun _ => rfl) h
theorem b_callVv {y2 : MethodName} {cc2 : ByteArray} {nL2 n c d idx : Nat} {rt2 : Option FieldType} {dp2 : Nat} {as S : List AV} {w1 : Mem} (hM : MV y2 cc2 nL2 rt2 n c) (hlk : Cond.methodLink y.cls idx y2 ∈ tG) (hO : Ob d c) (hs : Sp y2 cc2 nL2 rt2 dp2 (vR d 0 :: as) w none w1)
    (hn : as.length = n) (hdp : dp2 + 1 ≤ dp) (hL : nL2 ≤ 21) (hst : (st.map (fun v => if isL v then 2 else 1)).sum ≤ 8) (hS0 : S = as.reverse ++ vR d 0 :: st) (hd : decode cc pc = .ok (.invokevirtual idx, 3)) (h : Bk y cc nL rt dp (pc + 3) lv st w1 o w') : Bk y cc nL rt dp pc lv S w o w' :=
  b_callV0 hM hlk hO hs hn hdp hL hst hS0 hd (fun _ => rfl) h
theorem b_callSi {y2 : MethodName} {cc2 : ByteArray} {nL2 n idx : Nat} {rt2 : Option FieldType} {dp2 : Nat} {as S : List AV} {r : Int32} {w1 : Mem} (hM : MS y2 cc2 nL2 rt2 n) (hlk : Cond.methodLink y.cls idx y2 ∈ tG) (hs : Sp y2 cc2 nL2 rt2 dp2 as w (some (vI r)) w1)
    (hn : as.length = n) (hdp : dp2 + 1 ≤ dp) (hL : nL2 ≤ 21) (hst : (st.map (fun v => if isL v then 2 else 1)).sum ≤ 8) (hS0 : S = as.reverse ++ st) (hd : decode cc pc = .ok (.invokestatic idx, 3)) (h : Bk y cc nL rt dp (pc + 3) lv (vI r :: st) w1 o w') : Bk y cc nL rt dp pc lv S w o w' :=
  b_callS0 hM hlk hs hn hdp hL hst hS0 hd (fun _ => rfl) h
theorem b_callSv {y2 : MethodName} {cc2 : ByteArray} {nL2 n idx : Nat} {rt2 : Option FieldType} {dp2 : Nat} {as S : List AV} {w1 : Mem} (hM : MS y2 cc2 nL2 rt2 n) (hlk : Cond.methodLink y.cls idx y2 ∈ tG) (hs : Sp y2 cc2 nL2 rt2 dp2 as w none w1)
    (hn : as.length = n) (hdp : dp2 + 1 ≤ dp) (hL : nL2 ≤ 21) (hst : (st.map (fun v => if isL v then 2 else 1)).sum ≤ 8) (hS0 : S = as.reverse ++ st) (hd : decode cc pc = .ok (.invokestatic idx, 3)) (h : Bk y cc nL rt dp (pc + 3) lv st w1 o w') : Bk y cc nL rt dp pc lv S w o w' :=
  b_callS0 hM hlk hs hn hdp hL hst hS0 hd (fun _ => rfl) h
end Rules
