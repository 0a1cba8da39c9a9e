/-! values, memory, the layout of all cells -/
abbrev AV : Type := Int32 ⊕ Int64 ⊕ Option (Nat × Nat)
abbrev Mem : Type := (Nat → Nat → Nat → Int32) × (Nat → Nat → Nat → Int64) × (Nat → Nat → Nat × Nat)
abbrev vI (x : Int32) : AV := .inl x
abbrev vL (x : Int64) : AV := .inr (.inl x)
abbrev vN : AV := .inr (.inr none)
abbrev vR (d k : Nat) : AV := .inr (.inr (some (d, k)))
def cv (ad : Nat × Nat → Nat) (v : AV) : Value := match v with
  | .inl x => .int x
  | .inr (.inl x) => .long x
  | .inr (.inr none) => .null
  | .inr (.inr (some q)) => .ref (ad q)
def isL (v : AV) : Bool := match v with
  | .inr (.inl _) => true
  | _ => false
def lc (ad : Nat × Nat → Nat) (lv : List (Nat × AV)) : List (Nat × Value) := lv.map (fun q => (q.1, cv ad q.2))
/-- stores -/
def sI (w : Mem) (d k i : Nat) (x : Int32) : Mem := (fun a b c => if a = d ∧ b = k ∧ c = i then x else w.1 a b c, w.2)
def sL (w : Mem) (d k i : Nat) (x : Int64) : Mem := (w.1, fun a b c => if a = d ∧ b = k ∧ c = i then x else w.2.1 a b c, w.2.2)
def sR (w : Mem) (d k : Nat) (x : Nat × Nat) : Mem := (w.1, w.2.1, fun a b => if a = d ∧ b = k then x else w.2.2 a b)
def sA (w : Mem) (d k : Nat) (f : Nat → Int32) : Mem := (fun a b => if a = d ∧ b = k then f else w.1 a b, w.2)
def kc (d : Nat) : Nat := if d < 24 then 1 else if d < 26 then 6 else if d = 26 then 7 else if d = 27 then 5 else if d = 28 then 3 else if d = 29 then 2 else if d = 30 then 0 else if d = 31 then 4 else 8
def nf (c : Nat) : Nat := [1, 14, 6, 3, 4, 5, 13, 16, 45].getD c 0
/-- a field: 0 an int, 1 a cell for good, 2 a cell that may change -/
def ft (c k : Nat) : Nat := ([[1], [1, 1, 1, 1, 0, 0, 0, 0, 0, 0, 0, 0, 0, 0], [1, 1, 1, 1, 0, 0], [1, 0, 0], [1, 0, 0, 0], [2, 0, 0, 0, 0], [0, 0, 0, 0, 0, 0, 0, 1, 1, 1, 1, 1, 1], [1, 0, 0, 1, 2, 2, 1, 1, 1, 1, 1, 0, 0, 1, 1, 1], [0, 0, 0, 0, 1, 1, 1, 0, 1, 0, 1, 1, 0, 1, 0, 0, 0, 0, 0, 1, 0, 1, 1, 1, 1, 0, 1, 0, 1, 0, 1, 1, 1, 1, 1, 1, 0, 0, 1, 1, 0, 1, 1, 1, 1]] : List (List Nat)).getD c [] |>.getD k 0
def gr (d k : Nat) : Nat × Nat := if d = 26 then (if k = 3 then (27, 0) else if k = 6 then (0, 0) else if k = 7 then (1, 0) else if k = 8 then (28, 0) else if k = 13 then (29, 0) else if k = 14 then (30, 0) else if k = 15 then (31, 0) else (26, k + 1)) else (d, k + 1)
/-- an array: its kind (0 int, 1 long, 2 char, 3 boolean, 4 Days) and its length -/
def ak (d k : Nat) : Nat × Nat := ([[(0, 8)], [(0, 8), (0, 8), (0, 17), (0, 60)], [(0, 10), (0, 10), (0, 15), (0, 15)], [(4, 20)], [(0, 10)], [(9, 0), (9, 0), (9, 0), (9, 0), (9, 0), (2, 0)], [(9, 0), (9, 0), (9, 0), (9, 0), (9, 0), (9, 0), (9, 0), (0, 8), (0, 8), (0, 8), (0, 8), (1, 16), (1, 16)], [(2, 240), (9, 0), (9, 0), (9, 0), (9, 0), (9, 0), (9, 0), (9, 0), (9, 0), (4, 2), (0, 2)], [(9, 0), (9, 0), (9, 0), (9, 0), (0, 8), (0, 8), (0, 8), (9, 0), (0, 8), (9, 0), (0, 8), (0, 103), (9, 0), (0, 240), (9, 0), (9, 0), (9, 0), (9, 0), (9, 0), (0, 3), (9, 0), (0, 8), (0, 8), (0, 8), (0, 8), (9, 0), (0, 8), (9, 0), (0, 8), (9, 0), (0, 2060), (0, 103), (0, 8), (0, 72171), (0, 10), (0, 10), (9, 0), (9, 0), (0, 10), (0, 10), (9, 0), (0, 15), (0, 15), (0, 208), (3, 2)]] : List (List (Nat × Nat))).getD (kc d) [] |>.getD k (9, 0)
def rb (d : Nat) : Nat := if d = 26 then 2 else 4
def lay : List (Nat × Nat) := [(0, 0), (0, 1), (0, 2), (0, 3), (0, 4), (1, 0), (1, 1), (1, 2), (1, 3), (1, 4), (2, 0), (2, 1), (2, 2), (2, 3), (2, 4), (3, 0), (3, 1), (3, 2), (3, 3), (3, 4), (4, 0), (4, 1), (4, 2), (4, 3), (4, 4), (5, 0), (5, 1), (5, 2), (5, 3), (5, 4), (6, 0), (6, 1), (6, 2), (6, 3), (6, 4), (7, 0), (7, 1), (7, 2), (7, 3), (7, 4), (8, 0), (8, 1), (8, 2), (8, 3), (8, 4), (9, 0), (9, 1), (9, 2), (9, 3), (9, 4), (10, 0), (10, 1), (10, 2), (10, 3), (10, 4), (11, 0), (11, 1), (11, 2), (11, 3), (11, 4), (12, 0), (12, 1), (12, 2), (12, 3), (12, 4), (13, 0), (13, 1), (13, 2), (13, 3), (13, 4), (14, 0), (14, 1), (14, 2), (14, 3), (14, 4), (15, 0), (15, 1), (15, 2), (15, 3), (15, 4), (16, 0), (16, 1), (16, 2), (16, 3), (16, 4), (17, 0), (17, 1), (17, 2), (17, 3), (17, 4), (18, 0), (18, 1), (18, 2), (18, 3), (18, 4), (19, 0), (19, 1), (19, 2), (19, 3), (19, 4), (20, 0), (20, 1), (20, 2), (20, 3), (20, 4), (21, 0), (21, 1), (21, 2), (21, 3), (21, 4), (22, 0), (22, 1), (22, 2), (22, 3), (22, 4), (23, 0), (23, 1), (23, 2), (23, 3), (23, 4), (24, 0), (24, 8), (24, 9), (24, 10), (24, 11), (24, 12), (24, 13), (25, 0), (25, 8), (25, 9), (25, 10), (25, 11), (25, 12), (25, 13), (26, 0), (26, 1), (26, 10), (26, 11), (27, 0), (27, 6), (28, 0), (28, 1), (29, 0), (29, 1), (29, 2), (29, 3), (29, 4), (30, 0), (30, 1), (31, 0), (31, 1), (32, 0), (32, 5), (32, 6), (32, 7), (32, 9), (32, 11), (32, 12), (32, 14), (32, 20), (32, 22), (32, 23), (32, 24), (32, 25), (32, 27), (32, 29), (32, 31), (32, 32), (32, 33), (32, 34), (32, 35), (32, 36), (32, 39), (32, 40), (32, 42), (32, 43), (32, 44), (32, 45)]
def fv (ad : Nat × Nat → Nat) (w : Mem) (d k : Nat) : Value := if ft (kc d) k = 0 then .int (w.1 d k 0) else if ft (kc d) k = 1 then .ref (ad (gr d k)) else .ref (ad (w.2.2 d k))
def cn (ad : Nat × Nat → Nat) (w : Mem) (d k : Nat) : (Nat → Int32) ⊕ (Nat → Int64) ⊕ (Nat → UInt32) ⊕ (Nat → UInt64) ⊕ (Nat → Option Nat) :=
  if (ak d k).1 = 1 then .inr (.inl (w.2.1 d k)) else if (ak d k).1 = 4 then .inr (.inr (.inr (.inr (fun i => some (ad (rb d + i, 0)))))) else .inl (w.1 d k)
def ent (cy : Nat → ClassId) (ad : Nat × Nat → Nat) (w : Mem) (q : Nat × Nat) : va_E :=
  if q.2 = 0 then .inr (kc q.1, (List.range (nf (kc q.1))).map (fv ad w q.1)) else .inl (cy (ak q.1 (q.2 - 1)).1, (ak q.1 (q.2 - 1)).2, cn ad w q.1 (q.2 - 1))
def wld (cy : Nat → ClassId) (ad : Nat × Nat → Nat) (w : Mem) : va_W := lay.map (fun q => (ad q, ent cy ad w q))
def tysL (cy : Nat → ClassId) : List (ClassId × FieldType) := [(cy 0, .int), (cy 1, .long), (cy 2, .char), (cy 3, .boolean), (cy 4, .object "OneADay$Days")]
def AdOk (A : Nat → Prop) (ad : Nat × Nat → Nat) : Prop := (∀ q ∈ lay, ∀ q' ∈ lay, ad q = ad q' → q = q') ∧ ∀ q ∈ lay, A (ad q)
theorem lay_nd : lay.Nodup := by decide +kernel
theorem wld_at {cy : Nat → ClassId} {ad : Nat × Nat → Nat} {w : Mem} {q : Nat × Nat} (h : q ∈ lay) : ∃ i : Nat, lay[i]? = some q ∧ (wld cy ad w)[i]? = some (ad q, ent cy ad w q) := by
  obtain ⟨i, hi⟩ := List.getElem?_of_mem h
  exact ⟨i, hi, by rw [wld, List.getElem?_map, hi]; rfl⟩
theorem wld_of {cy : Nat → ClassId} {ad : Nat × Nat → Nat} {w : Mem} {i : Nat} {e : Nat × va_E} (h : (wld cy ad w)[i]? = some e) : ∃ q, lay[i]? = some q ∧ e = (ad q, ent cy ad w q) := by
  rw [wld, List.getElem?_map] at h
  cases hq : lay[i]? with
  | none => rw [hq] at h; cases h
  | some q => rw [hq] at h; exact ⟨q, rfl, (Option.some.inj h).symm⟩
theorem lay_ne {i j : Nat} {q : Nat × Nat} (hi : lay[i]? = some q) (hj : lay[j]? = some q) : i = j := (List.getElem?_inj (List.getElem?_eq_some_iff.mp hi).1 lay_nd).mp (hi.trans hj.symm)
theorem wld_D {cy : Nat → ClassId} {ad : Nat × Nat → Nat} {w : Mem} {A : Nat → Prop} (h : AdOk A ad) : va_D A (wld cy ad w) := by
  refine ⟨fun i j x z hi hj hxz => ?_, fun k q hk => ?_⟩
  · obtain ⟨q1, h1, rfl⟩ := wld_of hi
    obtain ⟨q2, h2, rfl⟩ := wld_of hj
    have e := h.1 q1 (List.mem_of_getElem? h1) q2 (List.mem_of_getElem? h2) hxz
    subst e
    exact lay_ne h1 h2
  · obtain ⟨q1, h1, rfl⟩ := wld_of hk
    exact h.2 q1 (List.mem_of_getElem? h1)
theorem wld_set {cy : Nat → ClassId} {ad : Nat × Nat → Nat} {w w' : Mem} {i : Nat} {q : Nat × Nat} (hi : lay[i]? = some q) (h : ∀ q' ∈ lay, q' ≠ q → ent cy ad w' q' = ent cy ad w q') : (wld cy ad w).set i (ad q, ent cy ad w' q) = wld cy ad w' := by
  apply List.ext_getElem?
  intro j
  have hl : i < (wld cy ad w).length := by rw [wld, List.length_map]; exact (List.getElem?_eq_some_iff.mp hi).1
  by_cases hj : j = i
  · subst hj
    rw [List.getElem?_set_self hl, wld, List.getElem?_map, hi]; rfl
  · rw [List.getElem?_set_ne (fun z => hj z.symm)]
    cases hq : lay[j]? with
    | none => rw [wld, wld, List.getElem?_map, List.getElem?_map, hq]; rfl
    | some q2 =>
      rw [wld, wld, List.getElem?_map, List.getElem?_map, hq]
      have hne : q2 ≠ q := fun z => hj (lay_ne hq (z ▸ hi))
      simp [h q2 (List.mem_of_getElem? hq) hne]
/-- an object of a kind; an array of a kind and a length -/
def Ob (d c : Nat) : Prop := kc d = c ∧ (d, 0) ∈ lay
def Ar (d k t n : Nat) : Prop := ak d k = (t, n) ∧ (d, k + 1) ∈ lay
theorem ent_ob {cy : Nat → ClassId} {ad : Nat × Nat → Nat} {w : Mem} {d c : Nat} (h : kc d = c) : ent cy ad w (d, 0) = .inr (c, (List.range (nf c)).map (fv ad w d)) := by
  subst h; rfl
theorem ent_ar {cy : Nat → ClassId} {ad : Nat × Nat → Nat} {w : Mem} {d k t n : Nat} (h : ak d k = (t, n)) : ent cy ad w (d, k + 1) = .inl (cy t, n, cn ad w d k) := by
  simp [ent, h]
theorem cn_i {ad : Nat × Nat → Nat} {w : Mem} {d k t n : Nat} (h : ak d k = (t, n)) (h1 : t ≠ 1) (h4 : t ≠ 4) : cn ad w d k = .inl (w.1 d k) := by
  simp [cn, h, h1, h4]
theorem cn_l {ad : Nat × Nat → Nat} {w : Mem} {d k n : Nat} (h : ak d k = (1, n)) : cn ad w d k = .inr (.inl (w.2.1 d k)) := by
  simp [cn, h]
theorem cn_r {ad : Nat × Nat → Nat} {w : Mem} {d k n : Nat} (h : ak d k = (4, n)) : cn ad w d k = .inr (.inr (.inr (.inr (fun i => some (ad (rb d + i, 0)))))) := by
  simp [cn, h]
/-- stores and what they leave -/
theorem lay_ft : ∀ q ∈ lay, q.2 = 0 ∨ ft (kc q.1) (q.2 - 1) ≠ 0 ∨ nf (kc q.1) ≤ q.2 - 1 := by decide +kernel
theorem ent_sI {cy : Nat → ClassId} {ad : Nat × Nat → Nat} {w : Mem} {d k : Nat} {x : Int32} (q : Nat × Nat) (h : ft (kc d) k = 0) (h2 : k < nf (kc d)) (hq : q ∈ lay) (hne : q ≠ (d, 0)) : ent cy ad (sI w d k 0 x) q = ent cy ad w q := by
  obtain ⟨a, b⟩ := q
  cases b with
  | zero =>
    have ha : a ≠ d := fun z => hne (by rw [z])
    simp [ent, fv, sI, ha]
  | succ b =>
    have hk2 : ¬ (a = d ∧ b = k) := fun z => by
      obtain ⟨rfl, rfl⟩ := z
      rcases lay_ft _ hq with z | z | z
      · exact absurd z (Nat.succ_ne_zero b)
      · exact z h
      · exact absurd z (Nat.not_le.mpr h2)
    have e : (sI w d k 0 x).1 a b = w.1 a b := by
      funext c
      simp only [sI]
      exact if_neg (fun z => hk2 ⟨z.1, z.2.1⟩)
    simp [ent, cn, e]
    rfl
theorem ent_sR {cy : Nat → ClassId} {ad : Nat × Nat → Nat} {w : Mem} {d k : Nat} {x : Nat × Nat} (q : Nat × Nat) (hne : q ≠ (d, 0)) : ent cy ad (sR w d k x) q = ent cy ad w q := by
  obtain ⟨a, b⟩ := q
  cases b with
  | zero =>
    have ha : a ≠ d := fun z => hne (by rw [z])
    simp [ent, fv, sR, ha]
  | succ b => rfl
theorem ent_sAo {cy : Nat → ClassId} {ad : Nat × Nat → Nat} {w : Mem} {d k : Nat} {f : Nat → Int32} (q : Nat × Nat) (h : ft (kc d) k ≠ 0 ∨ nf (kc d) ≤ k) (hne : q ≠ (d, k + 1)) : ent cy ad (sA w d k f) q = ent cy ad w q := by
  obtain ⟨a, b⟩ := q
  cases b with
  | zero =>
    have e : ∀ j ∈ List.range (nf (kc a)), fv ad (sA w d k f) a j = fv ad w a j := by
      intro j hj
      have hj2 := List.mem_range.mp hj
      by_cases hz : a = d ∧ j = k
      · obtain ⟨rfl, rfl⟩ := hz
        rcases h with h | h
        · simp [fv, h, sA]
        · omega
      · have e1 : (sA w d k f).1 a j = w.1 a j := by simp only [sA]; exact if_neg hz
        simp only [fv, e1]
        rfl
    simp only [ent, if_pos]
    rw [List.map_congr_left e]
  | succ b =>
    have hk2 : ¬ (a = d ∧ b = k) := fun z => hne (by rw [z.1, z.2])
    have e : (sA w d k f).1 a b = w.1 a b := by simp only [sA]; exact if_neg hk2
    simp [ent, cn, e]
    rfl
theorem sI_sA (w : Mem) (d k i : Nat) (x : Int32) : sI w d k i x = sA w d k (upd (w.1 d k) i x) := by
  simp only [sI, sA, Prod.mk.injEq, and_true]
  funext a b c
  by_cases h : a = d ∧ b = k
  · obtain ⟨rfl, rfl⟩ := h
    simp [upd]
  · rw [if_neg (fun z => h ⟨z.1, z.2.1⟩), if_neg h]
theorem ent_sLo {cy : Nat → ClassId} {ad : Nat × Nat → Nat} {w : Mem} {d k i : Nat} {x : Int64} (q : Nat × Nat) (hne : q ≠ (d, k + 1)) : ent cy ad (sL w d k i x) q = ent cy ad w q := by
  obtain ⟨a, b⟩ := q
  cases b with
  | zero => rfl
  | succ b =>
    have hk2 : ¬ (a = d ∧ b = k) := fun z => hne (by rw [z.1, z.2])
    have e : (sL w d k i x).2.1 a b = w.2.1 a b := by
      funext c
      simp only [sL]
      exact if_neg (fun z => hk2 ⟨z.1, z.2.1⟩)
    simp [ent, cn, e]
    rfl
