/-! constructors: the past -/
def dys (cy : Nat → ClassId) (b : Nat → Nat) (a : Nat → Nat → Nat) : Nat → va_W
  | 0 => []
  | n + 1 => dys cy b a n ++ lf1 cy (b n) (a n)
theorem dys_congr {cy : Nat → ClassId} {b b' : Nat → Nat} {a a' : Nat → Nat → Nat} : ∀ n, (∀ i, i < n → b i = b' i ∧ a i = a' i) → dys cy b a n = dys cy b' a' n := by
  intro n
  induction n with
  | zero => intro _; rfl
  | succ n ih =>
    intro h
    rw [dys, dys, ih (fun i hi => h i (by omega)), (h n (by omega)).1, (h n (by omega)).2]
def pw (cy : Nat → ClassId) (h0 k : Nat) (b : Nat → Nat) (a : Nat → Nat → Nat) (n : Nat) : va_W := (h0, .inr (3, [.ref k, .int 0, .int 0])) :: (k, .inl (cy 4, 20, .inr (.inr (.inr (.inr (fun i => if i < n then some (b i) else none)))))) :: dys cy b a n
theorem pw_s {cy : Nat → ClassId} {h0 k q n : Nat} {b : Nat → Nat} {a : Nat → Nat → Nat} {u : Nat → Nat} : (pw cy h0 k b a n ++ lf1 cy q u).set 1 (k, .inl (cy 4, 20, .inr (.inr (.inr (.inr (va_up (fun i => if i < n then some (b i) else none) n (some q))))))) = pw cy h0 k (va_up b n q) (va_up a n u) (n + 1) := by
  have e1 : va_up (fun i => if i < n then some (b i) else none) n (some q) = fun i => if i < n + 1 then some (va_up b n q i) else none := by
    funext i
    by_cases hz : i = n
    · subst hz; rw [va_up_self, if_pos (by omega), va_up_self]
    · rw [va_up_ne _ _ hz, va_up_ne _ _ hz]
      by_cases hl : i < n
      · rw [if_pos hl, if_pos (by omega)]
      · rw [if_neg hl, if_neg (by omega)]
  have e2 : dys cy b a n = dys cy (va_up b n q) (va_up a n u) n := dys_congr n (fun i hi => ⟨(va_up_ne _ _ (by omega)).symm, (va_up_ne _ _ (by omega)).symm⟩)
  rw [e1]
  show _ :: _ :: (dys cy b a n ++ lf1 cy q u) = _ :: _ :: (dys cy (va_up b n q) (va_up a n u) n ++ lf1 cy (va_up b n q n) (va_up a n u n))
  rw [va_up_self, va_up_self, ← e2]
def lf3 (cy : Nat → ClassId) (h0 : Nat) (u : Nat × (Nat → Nat) × (Nat → Nat → Nat)) : va_W := pw cy h0 u.1 u.2.1 u.2.2 20
section Past
variable {p : Program} {l : Launch} {e : Env} {s : State} {m : MethodId} {args : Array Value} {below : List Frame} {meth : Method} {c : Code} {D : va_G} {cy : Nat → ClassId} {A : Nat → Prop}
set_option maxHeartbeats 4000000 in
set_option maxRecDepth 100000 in
theorem past_loop (C : Cc yX3_init cX3_init 2 p s m args meth c D cy) (hA : ∀ q, s.heap.size ≤ q → A q) {h0 k : Nat} :
    ∀ r n b a H locs ls cells slots, n + r = 20 → cells = 1 + n * 5 → slots = 20 + n * 107 → va_P D vwCl (pw cy h0 k b a n) H → va_D A (pw cy h0 k b a n) → va_S A s.heap H locs → lv_has ls 2 [(0, .ref h0), (1, .int (nI n))] →
      W p l e { frames := 4, cells := 101, slots := 2160, locals := 140 } s m args below meth c H locs cells slots (MQ below (CQ D cy h0 lf3 A) args s 101 2160 A) (F0 m 15 ls []) := by
  obtain ⟨C0, T, f1, f2, f3, f4⟩ := fl3_11
  intro r
  induction r with
  | zero =>
    intro n b a H locs ls cells slots hn hce hsl hP hD hS hl
    obtain rfl : n = 20 := by omega
    refine lv_iload_n C.1 C.2.1 dX3_init_15 rfl (lv_at hl 1 rfl) ?_
    refine lv_aload_n C.1 C.2.1 dX3_init_16 rfl (lv_at hl 0 rfl) ?_
    refine va_get C.1 C.2.1 C.2.2.2.2.2.2.1 f2 C.2.2.2.2.2.1 C.2.2.2.2.2.2.2.1 hP 0 rfl f1 0 f3 (C.2.2.2.2.2.2.1 _ f4) (fun _ h9 => h9) (v := .ref k) rfl dX3_init_17 ?_
    refine va_alen C.1 C.2.1 C.2.2.2.2.2.2.2.1 hP 1 4 rfl rfl (v := nI 20) rfl dX3_init_20 ?_
    refine lv_icmp_ge (tgt := 43) C.1 C.2.1 dX3_init_21 (by decide) (fun _ => ?_) (fun z => absurd (Int32.le_refl _) z)
    subst hce
    subst hsl
    exact W.vret C.1 C.2.1 C.2.2.2.1 (fun t ht _ => ⟨⟨(k, b, a), rfl, trivial, by rw [ht]; exact hP, hD⟩, hS.F ht⟩) hS.2.2 dX3_init_43 C.2.2.2.2.1
  | succ r ih =>
    intro n b a H locs ls cells slots hn hce hsl hP hD hS hl
    refine lv_iload_n C.1 C.2.1 dX3_init_15 rfl (lv_at hl 1 rfl) ?_
    refine lv_aload_n C.1 C.2.1 dX3_init_16 rfl (lv_at hl 0 rfl) ?_
    refine va_get C.1 C.2.1 C.2.2.2.2.2.2.1 f2 C.2.2.2.2.2.1 C.2.2.2.2.2.2.2.1 hP 0 rfl f1 0 f3 (C.2.2.2.2.2.2.1 _ f4) (fun _ h9 => h9) (v := .ref k) rfl dX3_init_17 ?_
    refine va_alen C.1 C.2.1 C.2.2.2.2.2.2.2.1 hP 1 4 rfl rfl (v := nI 20) rfl dX3_init_20 ?_
    refine lv_icmp_ge (tgt := 43) C.1 C.2.1 dX3_init_21 (by decide) (fun z => absurd z (nI_ge (show n < 20 by omega) (by omega))) (fun _ => ?_)
    refine lv_aload_n C.1 C.2.1 dX3_init_24 rfl (lv_at hl 0 rfl) ?_
    refine va_get C.1 C.2.1 C.2.2.2.2.2.2.1 f2 C.2.2.2.2.2.1 C.2.2.2.2.2.2.2.1 hP 0 rfl f1 0 f3 (C.2.2.2.2.2.2.1 _ f4) (fun _ h9 => h9) (v := .ref k) rfl dX3_init_25 ?_
    refine lv_iload_n C.1 C.2.1 dX3_init_28 rfl (lv_at hl 1 rfl) ?_
    refine c_new (S := Nat → Nat) (y2 := yX1_init) (cc2 := cX1_init) (nL2 := 1) (ci2 := 1) (own := RX3) C.1 C.2.1 C.2.2.1 C.2.2.2.2.2.1 C.2.2.2.2.2.2.1 C.2.2.2.2.2.2.2.1 C.2.2.2.2.2.2.2.2.2 hA hP hD hS no3_9 mo1 rfl mi1 (Or.inl lk3_17) k1_init hl.1 (Nat.le_of_ble_eq_true rfl) (Nat.le_of_ble_eq_true rfl) ?_ ?_ (by show 1 + (1 + 0) ≤ 7; omega) dX3_init_29 dX3_init_32 dX3_init_33 (fun q u H locs hP hD hS => ?_)
    · show cells + 1 + 4 ≤ 101
      omega
    · show slots + 14 + 93 ≤ 2160
      omega
    refine va_astq C.1 C.2.1 C.2.2.2.2.2.2.2.1 hP hD hS 1 4 (pw cy h0 k b a n).length 1 (r := (RX1, TX1, 14)) rfl rfl (v := q) (by rw [List.getElem?_append_right (Nat.le_refl _), Nat.sub_self]; rfl) rfl (nI_in (show n < 20 by omega) (by omega)) dX3_init_36 (fun H locs hP hD hS => ?_)
    rw [cl_nI (by omega), pw_s] at hP hD
    refine lv_iinc (v := nI (n + 1)) (lv' := [(1, .int (nI (n + 1))), (0, .ref h0)]) C.1 C.2.1 dX3_init_37 hl (k := 1) rfl (by exact nI_add n 1) (by decide) rfl (fun ls hl => ?_)
    refine lv_goto (tgt := 15) C.1 C.2.1 dX3_init_40 (by decide) ?_
    exact ih (n + 1) (va_up b n q) (va_up a n u) H locs ls _ _ (by omega) (by show cells + 1 + 4 = _; omega) (by show slots + 14 + 93 = _; omega) hP hD hS (lv_sub hl [1, 0] rfl)
set_option maxHeartbeats 4000000 in
set_option maxRecDepth 100000 in
theorem k3_init : Ct yX3_init cX3_init 2 3 [.null, .int 0, .int 0] { frames := 4, cells := 101, slots := 2160, locals := 140 } (Nat × (Nat → Nat) × (Nat → Nat → Nat)) lf3 := by
  refine ct_of (by decide) rfl (by decide) dX3_init_0 dX3_init_1 oi3 oi_in oi_co (Nat.le_of_ble_eq_true rfl) (Nat.le_of_ble_eq_true rfl) ?_
  intro p l e s m args below meth c D cy h0 A C hA hP hD ls hl
  have hS : va_S A s.heap s.heap [] := va_S.rf
  refine lv_aload_n C.1 C.2.1 dX3_init_4 rfl (lv_at hl 0 rfl) ?_
  refine lv_bipush (v := 20) C.1 C.2.1 dX3_init_5 (by decide) ?_
  refine va_newq (C := RX1) C.1 C.2.1 C.2.2.2.2.2.1 (C.2.2.2.2.2.2.1 _ cl3_9) C.2.2.2.2.2.2.2.2.2.1 C.2.2.2.2.2.2.2.1 hP hD hS hA (N' := 20) (by decide) (by decide) (Nat.le_of_ble_eq_true rfl) (Nat.le_of_ble_eq_true rfl) (Nat.le_of_ble_eq_true rfl) dX3_init_7 (fun k cA H hK1 hP hD hS => ?_)
  obtain rfl := k_last (t := 4) hK1 rfl
  have hP : va_P D vwCl [(h0, .inr (3, [.null, .int 0, .int 0])), (k, .inl (cy 4, 20, .inr (.inr (.inr (.inr (fun _ => none))))))] H := hP
  have hD : va_D A [(h0, .inr (3, [.null, .int 0, .int 0])), (k, .inl (cy 4, 20, .inr (.inr (.inr (.inr (fun _ => none))))))] := hD
  refine c_putF C hP hD hS (k := 0) (v := .ref k) ff3_11 rfl rfl (Nat.le_of_ble_eq_true rfl) dX3_init_10 (fun H locs hP hD hS => ?_)
  refine lv_iconst (v := 0) C.1 C.2.1 dX3_init_13 (by decide) ?_
  refine lv_istore_n (lv' := [(1, .int 0), (0, .ref h0)]) C.1 C.2.1 dX3_init_14 rfl hl (by decide) rfl (fun ls hl => ?_)
  have e0 : pw cy h0 k (fun _ => 0) (fun _ _ => 0) 0 = [(h0, .inr (3, [.ref k, .int 0, .int 0])), (k, .inl (cy 4, 20, .inr (.inr (.inr (.inr (fun _ => none))))))] := by
    have : (fun i : Nat => if i < 0 then some 0 else none) = fun _ => (none : Option Nat) := by
      funext i; rw [if_neg (by omega)]
    show ([_, (k, .inl (cy 4, 20, .inr (.inr (.inr (.inr (fun i : Nat => if i < 0 then some 0 else none))))))] : va_W) = _
    rw [this]
  exact past_loop C hA 20 0 (fun _ => 0) (fun _ _ => 0) H locs ls _ _ (by omega) (by decide) (by decide) (by rw [e0]; exact hP) (by rw [e0]; exact hD) hS (lv_sub hl [1, 0] rfl)
end Past
