/-! constructors: what they stand on, arrays in fields, new objects -/
def NX (U : State) : Prop := va_AO RX1 U ∧ va_Nw (.methodLinkNest RX7 19 yX5_init RX7) U ∧ va_Nw (.methodLinkNest RX7 26 yX6_init RX7) U ∧ va_Nw (.methodLinkNest RX7 61 yX2_init RX7) U ∧ va_Nw (.methodLinkNest RX7 68 yX0_init RX7) U ∧ va_Nw (.methodLinkNest RX7 75 yX4_init RX7) U
theorem NX.warm {s U : State} (hW : s.WarmedH U.vm) (h : NX s) : NX U := ⟨va_AO.moved hW.alike h.1, va_Nw.warmM hW h.2.1, va_Nw.warmM hW h.2.2.1, va_Nw.warmM hW h.2.2.2.1, va_Nw.warmM hW h.2.2.2.2.1, va_Nw.warmM hW h.2.2.2.2.2⟩
theorem NX.same {u U : State} (e : u.vm = U.vm) (h : NX u) : NX U := ⟨va_AO.moved (by rw [e]; exact Vm.Alike.refl _) h.1, va_Nw.same rfl e h.2.1, va_Nw.same rfl e h.2.2.1, va_Nw.same rfl e h.2.2.2.1, va_Nw.same rfl e h.2.2.2.2.1, va_Nw.same rfl e h.2.2.2.2.2⟩
def Cc (y : MethodName) (cc : ByteArray) (nL : Nat) (p : Program) (s : State) (m : MethodId) (args : Array Value) (meth : Method) (c : Code) (D : va_G) (cy : Nat → ClassId) : Prop :=
  p.tables.exec = Jvm.exec ∧ c.code = cc ∧ c.maxLocals = nL ∧ meth.sig.returnType = none ∧ meth.locks = false ∧ s.vm.findClass y.cls = some m.cls ∧ (∀ w ∈ tG, w.before args s = true) ∧ va_K D vwCl (tysL cy) s ∧ meth.name = "<init>" ∧ NX s
/-- a constructor's contract: from the new object to the cells that lf names -/
def Ct (y : MethodName) (cc : ByteArray) (nL ci : Nat) (fs : List Value) (rm : Room) (S : Type) (lf : (Nat → ClassId) → Nat → S → va_W) : Prop :=
  ∀ (l : Launch) (D : va_G) (cy : Nat → ClassId) (h0 sz : Nat), Met l y (Cond.code y cc nL none :: tG) rm (va_Pc [.ref h0] (fun U => U.heap.size = sz ∧ va_P D vwCl [(h0, .inr (ci, fs))] U.heap ∧ va_K D vwCl (tysL cy) U ∧ NX U))
    (va_Qv (fun _ : S => True) (fun u t => va_P D vwCl (lf cy h0 u) t.heap ∧ va_D (va_A [(h0, .inr (ci, fs))] sz) (lf cy h0 u)) (va_A [(h0, .inr (ci, fs))] sz)) rm.cells rm.slots (va_A [(h0, .inr (ci, fs))] sz)
theorem vD1 {A : Nat → Prop} {a : Nat} {e : va_E} (h : A a) : va_D A [(a, e)] := by
  refine ⟨fun i j p q hi hj _ => ?_, fun k q hk => ?_⟩
  · have h1 : i < 1 := (List.getElem?_eq_some_iff.mp hi).1
    have h2 : j < 1 := (List.getElem?_eq_some_iff.mp hj).1
    omega
  · have h1 : k < 1 := (List.getElem?_eq_some_iff.mp hk).1
    obtain rfl : k = 0 := by omega
    cases hk; exact h
def CQ {S : Type} (D : va_G) (cy : Nat → ClassId) (h0 : Nat) (lf : (Nat → ClassId) → Nat → S → va_W) (A : Nat → Prop) : Array Value → State → Outcome → State → Prop := va_Qv (fun _ : S => True) (fun u t => va_P D vwCl (lf cy h0 u) t.heap ∧ va_D A (lf cy h0 u)) A
theorem ct_of {y : MethodName} {cc : ByteArray} {nL ci idx : Nat} {fs : List Value} {rm : Room} {S : Type} {lf : (Nat → ClassId) → Nat → S → va_W} (hy : plainName y.cls = true) (hnm : y.name = "<init>") (hn : 1 ≤ nL) (hd0 : decode cc 0 = .ok (.aload_n 0, 1)) (hd1 : decode cc 1 = .ok (.invokespecial idx, 3)) (hlk : Cond.methodLink y.cls idx objectInit ∈ tG) (hin : Cond.instanceMethod objectInit ∈ tG) (hco : Cond.code objectInit ⟨#[0xb1]⟩ 1 none ∈ tG) (hfr : 1 ≤ rm.frames) (hlo : 12 ≤ rm.locals)
    (h : ∀ (p : Program) (l : Launch) (e : Env) (s : State) (m : MethodId) (args : Array Value) (below : List Frame) (meth : Method) (c : Code) (D : va_G) (cy : Nat → ClassId) (h0 : Nat) (A : Nat → Prop), Cc y cc nL p s m args meth c D cy → (∀ q, s.heap.size ≤ q → A q) → va_P D vwCl [(h0, .inr (ci, fs))] s.heap → va_D A [(h0, .inr (ci, fs))] → ∀ (ls : Array Slot), lv_has ls nL [(0, .ref h0)] →
      W p l e rm s m args below meth c s.heap [] 0 0 (MQ below (CQ D cy h0 lf A) args s rm.cells rm.slots A) (F0 m 4 ls [])) : Ct y cc nL ci fs rm S lf := by
  intro l D cy h0 sz
  refine Met.ofW (cc := cc) (maxL := nL) (ret := none) hy rfl ?_
  intro p e s m args below meth c s₁ B hml hv
  obtain ⟨rfl, hsz, hP, hK, hNX⟩ := hv
  subst hsz
  have hts := atoms_spec (ws := Cond.code y cc nL none :: tG) B.pre
  have htG : ∀ w ∈ tG, w.before _ s = true := fun w hw => hts w (List.mem_cons_of_mem _ hw)
  have hown := findClass_of_methodNamed B.named
  have hl := lv_entry ([.ref h0]) (n := nL) hn
  rw [lg_entry_eq]
  generalize (lg_sl ([.ref h0]) ++ List.replicate (nL - (lg_sl ([.ref h0])).length) Slot.unset).toArray = ls at hl ⊢
  have hl : lv_has ls nL [(0, .ref h0)] := hl
  refine lv_aload_n B.exec B.bytes hd0 rfl (lv_at hl 0 rfl) ?_
  refine W.objInit B.exec B.bytes hown (htG _ hlk) (htG _ hin) (htG _ hco) rfl (by rw [hml]; exact hl.1) rfl hd1 hfr (by show 2 * 0 + 0 + 12 ≤ rm.locals; omega) ?_
  refine W.eq (g2 := F0 m 4 ls []) rfl ?_
  exact h p l e s m _ below meth c D cy h0 _ ⟨B.exec, B.bytes, hml, B.returns, B.notSynchronized, hown, htG, hK, (name_of_methodNamed B.named B.method).1.trans hnm, hNX⟩ (fun q hq => Or.inr hq) hP (vD1 (Or.inl ⟨0, _, rfl⟩)) ls hl
/-- final fields -/
def FF (own : String) (idx c k : Nat) (ty : FieldType) : Prop := ∃ (C : String) (T : u_T) (ty0 : Nat → FieldType), vwCl[c]? = some (C, T, nf c) ∧ (∀ w ∈ u_ws C T (nf c), w ∈ tG) ∧ k < nf c ∧ Cond.fieldLink own idx (T k).1 (T k).2.1 (T k).2.2.1 ∈ tG ∧
  (∀ j, j < nf c → parseFieldDescriptor (T j).2.2.1 = some (ty0 j)) ∧ (∀ a, a < nf c → ∀ b, b < nf c → a ≠ b → (T a).2.1 ≠ (T b).2.1) ∧ (T k).2.2.2 = true ∧ (T k).1 = own ∧ parseFieldDescriptor (T k).2.2.1 = some ty
theorem ra_u {s : State} {c1 c2 : ClassId} {ty : FieldType} (h1 : va_RA s c1 ty) (h2 : va_RA s c2 ty) : c1 = c2 := by
  cases ty with
  | object C =>
    obtain ⟨_, _, _, _, _, h3⟩ := h1
    obtain ⟨_, _, _, _, _, h4⟩ := h2
    exact Option.some.inj (h3.symm.trans h4)
  | _ => exact Option.some.inj ((show s.vm.findClass _ = some c1 from h1).symm.trans (show s.vm.findClass _ = some c2 from h2))
theorem k_last {D : va_G} {cy : Nat → ClassId} {s : State} {t : Nat} {cA : ClassId} {ty : FieldType} (h : va_K D vwCl (tysL cy ++ [(cA, ty)]) s) (ht : (tysL cy)[t]? = some (cy t, ty)) : cA = cy t := by
  have h1 := (h.2 5 (cA, ty) rfl).2
  have hl : t < (tysL cy).length := (List.getElem?_eq_some_iff.mp ht).1
  have h2 := (h.2 t (cy t, ty) (by rw [List.getElem?_append_left hl]; exact ht)).2
  exact ra_u h1 h2
section Steps
variable {p : Program} {l : Launch} {e : Env} {R : Room} {s : State} {m : MethodId} {args : Array Value} {below : List Frame} {meth : Method} {c : Code} {H : Heap} {locs : List Loc} {cells slots : Nat} {Q : State → Prop} {y : MethodName} {cc : ByteArray} {nL : Nat} {D : va_G} {cy : Nat → ClassId} {A : Nat → Prop} {ls : Array Slot} {pc : Nat} {rest : List Value} {h0 ci : Nat} {fs : List Value} {X : va_W}
theorem c_putF (C : Cc y cc nL p s m args meth c D cy) (hP : va_P D vwCl ((h0, .inr (ci, fs)) :: X) H) (hD : va_D A ((h0, .inr (ci, fs)) :: X)) (hS : va_S A s.heap H locs) {idx k : Nat} {ty : FieldType} {v : Value} (hF : FF y.cls idx ci k ty) (hn : narrow ty v = v) (hfit : fits ty v = true) (hl : k < fs.length) (hd : decode cc pc = .ok (.putfield idx, 3))
    (kk : ∀ (H1 : Heap) (locs1 : List Loc), va_P D vwCl ((h0, .inr (ci, fs.set k v)) :: X) H1 → va_D A ((h0, .inr (ci, fs.set k v)) :: X) → va_S A s.heap H1 locs1 → W p l e R s m args below meth c H1 locs1 cells slots Q (F0 m (pc + 3) ls rest)) : W p l e R s m args below meth c H locs cells slots Q (F0 m pc ls (v :: .ref h0 :: rest)) := by
  obtain ⟨C0, T, ty0, h1, h2, h3, h4, h5, h6, h7, h8, h9⟩ := hF
  exact va_putF C.1 C.2.1 C.2.2.2.2.2.2.1 h2 ty0 h5 h6 C.2.2.2.2.2.1 C.2.2.2.2.2.2.2.1 hP hD hS 0 rfl h1 k h3 (C.2.2.2.2.2.2.1 _ h4) (fun _ h => h) h7 C.2.2.2.2.2.2.2.2.1 h8 h9 hn hfit hl hd kk
theorem c_putN (C : Cc y cc nL p s m args meth c D cy) (hP : va_P D vwCl ((h0, .inr (ci, fs)) :: X) H) (hD : va_D A ((h0, .inr (ci, fs)) :: X)) (hS : va_S A s.heap H locs) {idx k : Nat} {ty : FieldType} {v : Value} (hF : FW y.cls idx ci k ty) (hn : narrow ty v = v) (hfit : fits ty v = true) (hl : k < fs.length) (hd : decode cc pc = .ok (.putfield idx, 3))
    (kk : ∀ (H1 : Heap) (locs1 : List Loc), va_P D vwCl ((h0, .inr (ci, fs.set k v)) :: X) H1 → va_D A ((h0, .inr (ci, fs.set k v)) :: X) → va_S A s.heap H1 locs1 → W p l e R s m args below meth c H1 locs1 cells slots Q (F0 m (pc + 3) ls rest)) : W p l e R s m args below meth c H locs cells slots Q (F0 m pc ls (v :: .ref h0 :: rest)) := by
  obtain ⟨C0, T, ty0, h1, h2, h3, h4, h5, h6, h7, h8⟩ := hF
  exact va_put C.1 C.2.1 C.2.2.2.2.2.2.1 h2 ty0 h5 h6 C.2.2.2.2.2.1 C.2.2.2.2.2.2.2.1 hP hD hS 0 rfl h1 k h3 (C.2.2.2.2.2.2.1 _ h4) (fun _ h => h) h7 h8 hn hfit hl hd kk
/-- a new array -/
theorem c_newa (C : Cc y cc nL p s m args meth c D cy) (hA : ∀ q, s.heap.size ≤ q → A q) {ws : va_W} (hP : va_P D vwCl ws H) (hD : va_D A ws) (hS : va_S A s.heap H locs) {t n : Nat} {ty : FieldType} {atype : ArrayType} {n32 : Int32} (ht : (tysL cy)[t]? = some (cy t, ty)) (hty : newarray.typeOf atype = ty) (harr : Cond.arrayClass ty ∈ tG) {a0 : vp_A} (ha : ∀ cA : ClassId, vp_cell cA a0 = arrV cA n (fun _ => defaultValue ty)) (hn : ¬ n32 < 0) (hN : n32.toNatClampNeg = n) (hb : n * componentBytes ty ≤ 536870912) (hc : cells + 1 ≤ R.cells) (hs : slots + n ≤ R.slots) (hd : decode cc pc = .ok (.newarray atype, 2))
    (kk : ∀ (q : Nat) (H1 : Heap), va_P D vwCl (ws ++ [(q, .inl (cy t, a0))]) H1 → va_D A (ws ++ [(q, .inl (cy t, a0))]) → va_S A s.heap H1 locs → W p l e R s m args below meth c H1 locs (cells + 1) (slots + n) Q (F0 m (pc + 2) ls (.ref q :: rest))) : W p l e R s m args below meth c H locs cells slots Q (F0 m pc ls (.int n32 :: rest)) := by
  refine va_newa C.1 C.2.1 (by rw [hty]; exact C.2.2.2.2.2.2.1 _ harr) hty C.2.2.2.2.2.2.2.1 hP hD hS hA ha hn hN hb hc hs hd (fun q cA H1 hK1 hP1 hD1 hS1 => ?_)
  obtain rfl := k_last hK1 ht
  exact kk q H1 hP1 hD1 hS1
/-- behind a call over the last cell -/
theorem jn {A0 : Nat → Prop} {D : va_G} {cl : List vw_C} {wr w1 : va_W} {z : Nat × va_E} {H H1 : Heap} (hP : va_P D cl (wr ++ [z]) H) (hD : va_D A0 (wr ++ [z])) (hk : ∀ q : Nat, q < H.size → ¬ va_A [z] H.size q → H1[q]? = H[q]?) (hF : ∀ q, va_A [z] H.size q → A0 q) (hP1 : va_P D cl w1 H1) (hD1 : va_D (va_A [z] H.size) w1) : va_P D cl (wr ++ w1) H1 ∧ va_D A0 (wr ++ w1) := by
  have at0 : ∀ (k : Nat) (q : Nat × va_E), wr[k]? = some q → (wr ++ [z])[k]? = some q := fun k q h => by rw [List.getElem?_append_left (List.getElem?_eq_some_iff.mp h).1]; exact h
  have atz : (wr ++ [z])[wr.length]? = some z := by rw [List.getElem?_append_right (Nat.le_refl _), Nat.sub_self]; rfl
  have apart : ∀ (k : Nat) (q : Nat × va_E), wr[k]? = some q → q.1 < H.size ∧ ¬ va_A [z] H.size q.1 := by
    intro k q hq
    have hl := (hP k q (at0 k q hq)).lt
    refine ⟨hl, fun h => ?_⟩
    rcases h with ⟨j, e, h⟩ | h
    · have hj : j < 1 := (List.getElem?_eq_some_iff.mp h).1
      obtain rfl : j = 0 := by omega
      have hz : z = (q.1, e) := Option.some.inj h
      have := hD.1 k wr.length q z (at0 k q hq) atz (by rw [hz])
      have hk2 : k < wr.length := (List.getElem?_eq_some_iff.mp hq).1
      omega
    · omega
  have hDr : va_D A0 wr := ⟨fun i j x y hx hy => hD.1 i j x y (at0 i x hx) (at0 j y hy), fun k q hq => hD.2 k q (at0 k q hq)⟩
  refine ⟨va_P.app (fun k q hq => ?_) hP1, va_D.app hDr (hD1.weaken (fun k q _ h => hF q.1 h)) (fun i j x y hx hy hxy => ?_)⟩
  · obtain ⟨g1, g2⟩ := apart k q hq
    exact (hP k q (at0 k q hq)).kept (hk q.1 g1 g2)
  · exact (apart i x hx).2 (by rw [hxy]; exact hD1.2 j y hy)
/-- what a class's objects need to be made -/
def NO (own : String) (idx c : Nat) (fs : List Value) : Prop := ∃ (C : String) (T : u_T) (ty : Nat → FieldType), vwCl[c]? = some (C, T, nf c) ∧ (∀ w ∈ u_ws C T (nf c), w ∈ tG) ∧ (∀ k, k < nf c → parseFieldDescriptor (T k).2.2.1 = some (ty k)) ∧ Cond.classLink own idx C ∈ tG ∧ Cond.instantiable C (nf c) ∈ tG ∧ Cond.initialized C ∈ tG ∧ ∀ j, j < nf c → defaultValue (ty j) = vp_V fs j
theorem c_blind {D : va_G} {cy : Nat → ClassId} {h0 sz ci : Nat} {fs : List Value} : FrameBlind (va_Pc [.ref h0] (fun U => U.heap.size = sz ∧ va_P D vwCl [(h0, .inr (ci, fs))] U.heap ∧ va_K D vwCl (tysL cy) U ∧ NX U)) := fun a U g mk q => by
  obtain ⟨q0, q1, qP, qK, qN⟩ := q
  exact ⟨q0, q1, qP, va_K.moved (u := U) (U := U.calling g mk a) (Vm.Alike.refl U.vm) qK, NX.same (u := U) (U := U.calling g mk a) rfl qN⟩
theorem c_new {S : Type} {y2 : MethodName} {cc2 : ByteArray} {nL2 i1 i3 ci2 : Nat} {fs2 : List Value} {rm2 : Room} {lf : (Nat → ClassId) → Nat → S → va_W} (hx : p.tables.exec = Jvm.exec) (hb : c.code = cc) (hml : c.maxLocals = nL) {own : String} (hown : s.vm.findClass own = some m.cls) (hts : ∀ w ∈ tG, w.before args s = true) (hK : va_K D vwCl (tysL cy) s) (hNX : NX s) (hA : ∀ q, s.heap.size ≤ q → A q) {ws : va_W} (hP : va_P D vwCl ws H) (hD : va_D A ws) (hS : va_S A s.heap H locs) (hN : NO own i1 ci2 fs2) (hM : MO y2 cc2 nL2 none 0) (hnm : y2.name = "<init>") (hin : Cond.instanceMethod y2 ∈ tG)
    (hlk : Cond.methodLink own i3 y2 ∈ tG ∨ ∃ host, ∀ U, NX U → va_Nw (.methodLinkNest own i3 y2 host) U) (hC : Ct y2 cc2 nL2 ci2 fs2 rm2 S lf) (hls : ls.size = nL) (hfr : rm2.frames + 1 ≤ R.frames) (hlo : 8 + (nL2 + 11) + rm2.locals ≤ R.locals) (hc : cells + 1 + rm2.cells ≤ R.cells) (hs : slots + nf ci2 + rm2.slots ≤ R.slots) (hrs : (rest.map fun v => v.category).sum ≤ 7)
    (hd1 : decode cc pc = .ok (.new i1, 3)) (hd2 : decode cc (pc + 3) = .ok (.dup, 1)) (hd3 : decode cc (pc + 4) = .ok (.invokespecial i3, 3))
    (kk : ∀ (q : Nat) (u : S) (H1 : Heap) (locs1 : List Loc), va_P D vwCl (ws ++ lf cy q u) H1 → va_D A (ws ++ lf cy q u) → va_S A s.heap H1 locs1 → W p l e R s m args below meth c H1 locs1 (cells + 1 + rm2.cells) (slots + nf ci2 + rm2.slots) Q (F0 m (pc + 7) ls (.ref q :: rest))) : W p l e R s m args below meth c H locs cells slots Q (F0 m pc ls rest) := by
  obtain ⟨C2, T2, ty2, n1, n2, n3, n4, n5, n6, n7⟩ := hN
  refine va_new (ci := ci2) (fs := fs2) (C := C2) (T := T2) (N := nf ci2) hx hb hts n2 ty2 n3 hown (hts _ n4) (hts _ n5) (hts _ n6) hK hP hD hS hA n1 n7 (by omega) (by omega) hd1 (fun q H1 hP1 hD1 hS1 => ?_)
  refine lv_dup hx hb hd2 rfl ?_
  have at1 : (ws ++ [(q, (.inr (ci2, fs2) : va_E))])[ws.length]? = some (q, .inr (ci2, fs2)) := by rw [List.getElem?_append_right (Nat.le_refl _), Nat.sub_self]; rfl
  have hPc : va_P D vwCl [(q, .inr (ci2, fs2))] H1 := fun k z hk => by
    have h1 : k < 1 := (List.getElem?_eq_some_iff.mp hk).1
    obtain rfl : k = 0 := by omega
    cases hk
    exact hP1 ws.length _ at1
  have hFc : ∀ z, va_A [(q, .inr (ci2, fs2))] H1.size z → A z := fun z hz => by
    rcases hz with ⟨k, e, hk⟩ | hk
    · have h1 : k < 1 := (List.getElem?_eq_some_iff.mp hk).1
      obtain rfl : k = 0 := by omega
      cases hk
      exact hD1.2 ws.length _ at1
    · exact hA z (Nat.le_trans hS1.1 hk)
  have pre : PreS s H1 (va_Pc [.ref q] (fun U => U.heap.size = H1.size ∧ va_P D vwCl [(q, .inr (ci2, fs2))] U.heap ∧ va_K D vwCl (tysL cy) U ∧ NX U)) (.ref q :: []) := ⟨c_blind, fun U hU hW => ⟨rfl, by rw [hU], by rw [hU]; exact hPc, va_K.moved hW.alike hK, NX.warm hW hNX⟩⟩
  have run : va_Run p l e R s m args below meth c H1 locs (cells + 1) (slots + nf ci2) rm2.cells rm2.slots (F0 m (pc + 3 + 1) ls (.ref q :: .ref q :: rest)) (.ref q :: rest) (va_Qv (fun _ : S => True) (fun u t => va_P D vwCl (lf cy q u) t.heap ∧ va_D (va_A [(q, .inr (ci2, fs2))] H1.size) (lf cy q u)) (va_A [(q, .inr (ci2, fs2))] H1.size) #[.ref q]) (va_A [(q, .inr (ci2, fs2))] H1.size) := by
    have room : 2 * (F0 m (pc + 3 + 1) ls (.ref q :: .ref q :: rest)).monitorRoom + ((Value.ref q :: rest).map fun v => v.category).sum ≤ 8 := lv_room (by show 1 + (rest.map fun v => v.category).sum ≤ 8; omega)
    rcases hlk with h | ⟨host, h⟩
    · exact va_runI (n := 0) (bytes := cc2) (maxL := nL2) (As := []) (rest := .ref q :: rest) (Ts := tG) (own := own) (index := i3) (cc := cc) (nL := nL) ⟨hx, hb, hml, hown, hts⟩ (hC l D cy q H1.size) ⟨callB_of 0 hts (goodG hM.1) rfl rfl rfl (hts _ hM.2.1) (hts _ h) hM.2.2 ⟨hfr, hlo⟩, hnm, hts _ hin⟩ pre rfl rfl hls rfl room hd3 ⟨by omega, by omega⟩
    · exact va_runIN (n := 0) (bytes := cc2) (maxL := nL2) (As := []) (rest := .ref q :: rest) (Ts := tG) (own := own) (host := host) (index := i3) (cc := cc) (nL := nL) ⟨hx, hb, hml, hown, hts⟩ (hC l D cy q H1.size) ⟨va_cnB 0 hts (goodG hM.1) rfl rfl rfl (h _ hNX) (hts _ hM.2.1) hM.2.2 ⟨hfr, hlo⟩, hnm, hts _ hin⟩ pre rfl rfl hls rfl room hd3 ⟨by omega, by omega⟩
  refine va_callv run hS1 (fun z _ h => hFc z h) hFc (fun u t H2 locs2 ht hvm _ hB hz1 hk1 hS2 => ?_)
  obtain ⟨hP2, hD2⟩ := hB
  rw [ht] at hP2
  obtain ⟨hP3, hD3⟩ := jn hP1 hD1 hk1 hFc hP2 hD2
  exact kk q u H2 locs2 hP3 hD3 hS2
end Steps
