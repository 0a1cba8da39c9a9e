/-! what a method's run stands on, blocks and contracts -/
def tG : List Cond := lw_tbl.filter goodWord
theorem tG_of {i : Nat} {w : Cond} (h : tables_1[i]? = some w) (hg : goodWord w = true) : w ∈ tG := List.mem_filter.mpr ⟨List.mem_append_right _ (List.mem_of_getElem? h), hg⟩
theorem tG_sel {i : Nat} {w : Cond} (h : (k2_sels lw_privs)[i]? = some w) (hg : goodWord w = true) : w ∈ tG := List.mem_filter.mpr ⟨List.mem_append_left _ (List.mem_of_getElem? h), hg⟩
/-- the two links of Days to statics of its host -/
def NW (U : State) : Prop := va_Nw (.methodLinkNest RX1 95 yX7_outcomeOf RX7) U ∧ va_Nw (.methodLinkNest RX1 113 yX7_firstOf RX7) U
theorem NW.warm {s U : State} (hW : s.WarmedH U.vm) (h : NW s) : NW U := ⟨va_Nw.warmM hW h.1, va_Nw.warmM hW h.2⟩
theorem NW.same {u U : State} (e : u.vm = U.vm) (h : NW u) : NW U := ⟨va_Nw.same rfl e h.1, va_Nw.same rfl e h.2⟩
def rmD (dp : Nat) : Room := { frames := dp, cells := 0, slots := 0, locals := 40 * dp }
def Cx (y : MethodName) (cc : ByteArray) (nL : Nat) (rt : Option FieldType) (dp : Nat) (p : Program) (R : Room) (s : State) (m : MethodId) (args : Array Value) (meth : Method) (c : Code) (D : va_G) (cy : Nat → ClassId) (ad : Nat × Nat → Nat) (A : Nat → Prop) : Prop :=
  p.tables.exec = Jvm.exec ∧ c.code = cc ∧ c.maxLocals = nL ∧ meth.sig.returnType = rt ∧ meth.locks = false ∧ s.vm.findClass y.cls = some m.cls ∧ (∀ w ∈ tG, w.before args s = true) ∧ va_K D vwCl (tysL cy) s ∧ AdOk A ad ∧ dp ≤ R.frames ∧ 40 * dp ≤ R.locals ∧ NW s
def QQ (D : va_G) (cy : Nat → ClassId) (ad : Nat × Nat → Nat) (A : Nat → Prop) (o : Option AV) (w' : Mem) : Array Value → State → Outcome → State → Prop := fun _ st oc t =>
  oc = .returned (o.map (cv ad)) ∧ va_P D vwCl (wld cy ad w') t.heap ∧ va_F A st t
/-- the machine, at a block with these values and this memory, comes to the method's end with that answer and that memory -/
def Bk (y : MethodName) (cc : ByteArray) (nL : Nat) (rt : Option FieldType) (dp : Nat) (pc : Nat) (lv : List (Nat × AV)) (st : List AV) (w : Mem) (o : Option AV) (w' : Mem) : Prop :=
  ∀ (p : Program) (l : Launch) (e : Env) (R : Room) (s : State) (m : MethodId) (args : Array Value) (below : List Frame) (meth : Method) (c : Code) (D : va_G) (cy : Nat → ClassId) (ad : Nat × Nat → Nat) (A : Nat → Prop),
    Cx y cc nL rt dp p R s m args meth c D cy ad A → ∀ (H : Heap) (locs : List Loc) (ls : Array Slot), va_P D vwCl (wld cy ad w) H → va_S A s.heap H locs → lv_has ls nL (lc ad lv) →
    W p l e R s m args below meth c H locs 0 0 (MQ below (QQ D cy ad A o w') args s 0 0 A) (F0 m pc ls (st.map (cv ad)))
def Sp (y : MethodName) (cc : ByteArray) (nL : Nat) (rt : Option FieldType) (dp : Nat) (as : List AV) (w : Mem) (o : Option AV) (w' : Mem) : Prop :=
  ∀ (l : Launch) (D : va_G) (cy : Nat → ClassId) (ad : Nat × Nat → Nat) (A : Nat → Prop), AdOk A ad →
    Met l y (Cond.code y cc nL rt :: tG) (rmD dp) (va_Pc (as.map (cv ad)) (fun U => va_P D vwCl (wld cy ad w) U.heap ∧ va_K D vwCl (tysL cy) U ∧ NW U)) (QQ D cy ad A o w') 0 0 A
theorem sp_of {y : MethodName} {cc : ByteArray} {nL : Nat} {rt : Option FieldType} {dp : Nat} {as : List AV} {w w' : Mem} {o : Option AV} {lv : List (Nat × AV)} (hy : plainName y.cls = true) (hlv : ∀ ad, lv_args 0 (as.map (cv ad)) = lc ad lv) (hn : ∀ ad, (lg_sl (as.map (cv ad))).length ≤ nL)
    (h : Bk y cc nL rt dp 0 lv [] w o w') : Sp y cc nL rt dp as w o w' := by
  intro l D cy ad A hAd
  refine Met.ofW (cc := cc) (maxL := nL) (ret := rt) hy rfl ?_
  intro p e s m args below meth c s₁ B hml hv
  obtain ⟨rfl, hP, hK, hNW⟩ := hv
  have hts := atoms_spec (ws := Cond.code y cc nL rt :: tG) B.pre
  have hl := lv_entry (as.map (cv ad)) (n := nL) (hn ad)
  rw [lg_entry_eq]
  rw [hlv ad] at hl
  exact h p l e _ s m _ below meth c D cy ad A ⟨B.exec, B.bytes, hml, B.returns, B.notSynchronized, findClass_of_methodNamed B.named, fun w hw => hts w (List.mem_cons_of_mem _ hw), hK, hAd, Nat.le_refl _, Nat.le_refl _, hNW⟩ s.heap [] _ hP va_S.rf hl
def jrem (x z : Int32) : Int32 := x - x / z * z
def jremL (x z : Int64) : Int64 := x - x / z * z
def jshl (x z : Int32) : Int32 := x <<< (z &&& 31)
def jshr (x z : Int32) : Int32 := x >>> (z &&& 31)
def jushr (x z : Int32) : Int32 := (x.toUInt32 >>> (z.toUInt32 &&& Int32.toUInt32 31)).toInt32
def jlshl (x : Int64) (z : Int32) : Int64 := x <<< (z.toInt64 &&& 63)
def jlushr (x : Int64) (z : Int32) : Int64 := (x.toUInt64 >>> (z.toInt64.toUInt64 &&& Int64.toUInt64 63)).toInt64
def j2c (x : Int32) : Int32 := (x.toUInt32 % 65536).toInt32
section Rules
variable {y : MethodName} {cc : ByteArray} {nL : Nat} {rt : Option FieldType} {dp pc : Nat} {lv lv' : List (Nat × AV)} {st : List AV} {w w' : Mem} {o : Option AV}
theorem lc_at {ad : Nat × Nat → Nat} {k i : Nat} {v : AV} (h : lv[k]? = some (i, v)) : (lc ad lv)[k]? = some (i, cv ad v) := by
  rw [lc, List.getElem?_map, h]; rfl
theorem cat_cv {ad : Nat × Nat → Nat} (v : AV) : ((cv ad v).category == 2) = isL v := by
  match v with
  | .inl x => rfl
  | .inr (.inl x) => rfl
  | .inr (.inr none) => rfl
  | .inr (.inr (some q)) => rfl
theorem cat_1 {ad : Nat × Nat → Nat} {v : AV} (h : isL v = false) : (cv ad v).category = 1 := by
  match v, h with
  | .inl x, _ => rfl
  | .inr (.inr none), _ => rfl
  | .inr (.inr (some q)), _ => rfl
theorem lc_store {ad : Nat × Nat → Nat} {i : Nat} {v : AV} (h : (i, v) :: lv.filter (fun q => !(q.1 == i) && !(q.1 + 1 == i && isL q.2)) = lv') :
    (i, cv ad v) :: (lc ad lv).filter (fun q => !(q.1 == i) && !(q.1 + 1 == i && q.2.category == 2)) = lc ad lv' := by
  subst h
  simp only [lc, List.map_cons, List.filter_map]
  congr 1
  congr 1
  apply List.filter_congr
  intro q _
  simp [Function.comp, cat_cv]
theorem lc_storeL {ad : Nat × Nat → Nat} {i : Nat} {v : AV} (h : (i, v) :: lv.filter (fun q => !(q.1 == i) && (!(q.1 == i + 1) && !(q.1 + 1 == i && isL q.2))) = lv') :
    (i, cv ad v) :: (lc ad lv).filter (fun q => !(q.1 == i) && (!(q.1 == i + 1) && !(q.1 + 1 == i && q.2.category == 2))) = lc ad lv' := by
  subst h
  simp only [lc, List.map_cons, List.filter_map]
  congr 1
  congr 1
  apply List.filter_congr
  intro q _
  simp [Function.comp, cat_cv]
theorem b_iadd {x z : Int32} (hd : decode cc pc = .ok (.iadd, 1)) (h : Bk y cc nL rt dp (pc + 1) lv (vI (x + z) :: st) w o w') : Bk y cc nL rt dp pc lv (vI z :: vI x :: st) w o w' := by
  intro p l e R s m args below meth c D cy ad A C H locs ls hP hS hl
  exact lv_iadd C.1 C.2.1 hd (h p l e R s m args below meth c D cy ad A C H locs ls hP hS hl)
theorem b_isub {x z : Int32} (hd : decode cc pc = .ok (.isub, 1)) (h : Bk y cc nL rt dp (pc + 1) lv (vI (x - z) :: st) w o w') : Bk y cc nL rt dp pc lv (vI z :: vI x :: st) w o w' := by
  intro p l e R s m args below meth c D cy ad A C H locs ls hP hS hl
  exact lv_isub C.1 C.2.1 hd (h p l e R s m args below meth c D cy ad A C H locs ls hP hS hl)
theorem b_imul {x z : Int32} (hd : decode cc pc = .ok (.imul, 1)) (h : Bk y cc nL rt dp (pc + 1) lv (vI (x * z) :: st) w o w') : Bk y cc nL rt dp pc lv (vI z :: vI x :: st) w o w' := by
  intro p l e R s m args below meth c D cy ad A C H locs ls hP hS hl
  exact lv_imul C.1 C.2.1 hd (h p l e R s m args below meth c D cy ad A C H locs ls hP hS hl)
theorem b_iand {x z : Int32} (hd : decode cc pc = .ok (.iand, 1)) (h : Bk y cc nL rt dp (pc + 1) lv (vI (x &&& z) :: st) w o w') : Bk y cc nL rt dp pc lv (vI z :: vI x :: st) w o w' := by
  intro p l e R s m args below meth c D cy ad A C H locs ls hP hS hl
  exact lv_iand C.1 C.2.1 hd (h p l e R s m args below meth c D cy ad A C H locs ls hP hS hl)
theorem b_ior {x z : Int32} (hd : decode cc pc = .ok (.ior, 1)) (h : Bk y cc nL rt dp (pc + 1) lv (vI (x ||| z) :: st) w o w') : Bk y cc nL rt dp pc lv (vI z :: vI x :: st) w o w' := by
  intro p l e R s m args below meth c D cy ad A C H locs ls hP hS hl
  exact lv_ior C.1 C.2.1 hd (h p l e R s m args below meth c D cy ad A C H locs ls hP hS hl)
theorem b_ixor {x z : Int32} (hd : decode cc pc = .ok (.ixor, 1)) (h : Bk y cc nL rt dp (pc + 1) lv (vI (x ^^^ z) :: st) w o w') : Bk y cc nL rt dp pc lv (vI z :: vI x :: st) w o w' := by
  intro p l e R s m args below meth c D cy ad A C H locs ls hP hS hl
  exact lv_ixor C.1 C.2.1 hd (h p l e R s m args below meth c D cy ad A C H locs ls hP hS hl)
theorem b_ladd {x z : Int64} (hd : decode cc pc = .ok (.ladd, 1)) (h : Bk y cc nL rt dp (pc + 1) lv (vL (x + z) :: st) w o w') : Bk y cc nL rt dp pc lv (vL z :: vL x :: st) w o w' := by
  intro p l e R s m args below meth c D cy ad A C H locs ls hP hS hl
  exact lv_ladd C.1 C.2.1 hd (h p l e R s m args below meth c D cy ad A C H locs ls hP hS hl)
theorem b_lmul {x z : Int64} (hd : decode cc pc = .ok (.lmul, 1)) (h : Bk y cc nL rt dp (pc + 1) lv (vL (x * z) :: st) w o w') : Bk y cc nL rt dp pc lv (vL z :: vL x :: st) w o w' := by
  intro p l e R s m args below meth c D cy ad A C H locs ls hP hS hl
  exact lv_lmul C.1 C.2.1 hd (h p l e R s m args below meth c D cy ad A C H locs ls hP hS hl)
theorem b_land {x z : Int64} (hd : decode cc pc = .ok (.land, 1)) (h : Bk y cc nL rt dp (pc + 1) lv (vL (x &&& z) :: st) w o w') : Bk y cc nL rt dp pc lv (vL z :: vL x :: st) w o w' := by
  intro p l e R s m args below meth c D cy ad A C H locs ls hP hS hl
  exact lv_land C.1 C.2.1 hd (h p l e R s m args below meth c D cy ad A C H locs ls hP hS hl)
theorem b_lor {x z : Int64} (hd : decode cc pc = .ok (.lor, 1)) (h : Bk y cc nL rt dp (pc + 1) lv (vL (x ||| z) :: st) w o w') : Bk y cc nL rt dp pc lv (vL z :: vL x :: st) w o w' := by
  intro p l e R s m args below meth c D cy ad A C H locs ls hP hS hl
  exact lv_lor C.1 C.2.1 hd (h p l e R s m args below meth c D cy ad A C H locs ls hP hS hl)
theorem b_lsub {x z : Int64} (hd : decode cc pc = .ok (.lsub, 1)) (h : Bk y cc nL rt dp (pc + 1) lv (vL (x - z) :: st) w o w') : Bk y cc nL rt dp pc lv (vL z :: vL x :: st) w o w' := by
  intro p l e R s m args below meth c D cy ad A C H locs ls hP hS hl
  exact lv_lsub C.1 C.2.1 hd (h p l e R s m args below meth c D cy ad A C H locs ls hP hS hl)
theorem b_idiv {x z : Int32} (hd : decode cc pc = .ok (.idiv, 1)) (hz : ¬ z = 0) (h : Bk y cc nL rt dp (pc + 1) lv (vI (x / z) :: st) w o w') : Bk y cc nL rt dp pc lv (vI z :: vI x :: st) w o w' := by
  intro p l e R s m args below meth c D cy ad A C H locs ls hP hS hl
  exact lv_idiv C.1 C.2.1 hd hz (h p l e R s m args below meth c D cy ad A C H locs ls hP hS hl)
theorem b_irem {x z : Int32} (hd : decode cc pc = .ok (.irem, 1)) (hz : ¬ z = 0) (h : Bk y cc nL rt dp (pc + 1) lv (vI (jrem x z) :: st) w o w') : Bk y cc nL rt dp pc lv (vI z :: vI x :: st) w o w' := by
  intro p l e R s m args below meth c D cy ad A C H locs ls hP hS hl
  exact lv_irem C.1 C.2.1 hd hz (h p l e R s m args below meth c D cy ad A C H locs ls hP hS hl)
theorem b_lrem {x z : Int64} (hd : decode cc pc = .ok (.lrem, 1)) (hz : ¬ z = 0) (h : Bk y cc nL rt dp (pc + 1) lv (vL (jremL x z) :: st) w o w') : Bk y cc nL rt dp pc lv (vL z :: vL x :: st) w o w' := by
  intro p l e R s m args below meth c D cy ad A C H locs ls hP hS hl
  exact lv_lrem C.1 C.2.1 hd hz (h p l e R s m args below meth c D cy ad A C H locs ls hP hS hl)
theorem b_ineg {x : Int32} (hd : decode cc pc = .ok (.ineg, 1)) (h : Bk y cc nL rt dp (pc + 1) lv (vI (-x) :: st) w o w') : Bk y cc nL rt dp pc lv (vI x :: st) w o w' := by
  intro p l e R s m args below meth c D cy ad A C H locs ls hP hS hl
  exact lv_ineg C.1 C.2.1 hd (h p l e R s m args below meth c D cy ad A C H locs ls hP hS hl)
theorem b_ishl {x z : Int32} (hd : decode cc pc = .ok (.ishl, 1)) (h : Bk y cc nL rt dp (pc + 1) lv (vI (jshl x z) :: st) w o w') : Bk y cc nL rt dp pc lv (vI z :: vI x :: st) w o w' := by
  intro p l e R s m args below meth c D cy ad A C H locs ls hP hS hl
  exact lv_ishl C.1 C.2.1 hd (h p l e R s m args below meth c D cy ad A C H locs ls hP hS hl)
theorem b_ishr {x z : Int32} (hd : decode cc pc = .ok (.ishr, 1)) (h : Bk y cc nL rt dp (pc + 1) lv (vI (jshr x z) :: st) w o w') : Bk y cc nL rt dp pc lv (vI z :: vI x :: st) w o w' := by
  intro p l e R s m args below meth c D cy ad A C H locs ls hP hS hl
  exact lv_ishr C.1 C.2.1 hd (h p l e R s m args below meth c D cy ad A C H locs ls hP hS hl)
theorem b_iushr {x z : Int32} (hd : decode cc pc = .ok (.iushr, 1)) (h : Bk y cc nL rt dp (pc + 1) lv (vI (jushr x z) :: st) w o w') : Bk y cc nL rt dp pc lv (vI z :: vI x :: st) w o w' := by
  intro p l e R s m args below meth c D cy ad A C H locs ls hP hS hl
  exact lv_iushr C.1 C.2.1 hd rfl (h p l e R s m args below meth c D cy ad A C H locs ls hP hS hl)
theorem b_lshl {x : Int64} {z : Int32} (hd : decode cc pc = .ok (.lshl, 1)) (h : Bk y cc nL rt dp (pc + 1) lv (vL (jlshl x z) :: st) w o w') : Bk y cc nL rt dp pc lv (vI z :: vL x :: st) w o w' := by
  intro p l e R s m args below meth c D cy ad A C H locs ls hP hS hl
  exact lv_lshl C.1 C.2.1 hd rfl (h p l e R s m args below meth c D cy ad A C H locs ls hP hS hl)
theorem b_lushr {x : Int64} {z : Int32} (hd : decode cc pc = .ok (.lushr, 1)) (h : Bk y cc nL rt dp (pc + 1) lv (vL (jlushr x z) :: st) w o w') : Bk y cc nL rt dp pc lv (vI z :: vL x :: st) w o w' := by
  intro p l e R s m args below meth c D cy ad A C H locs ls hP hS hl
  exact lv_lushr C.1 C.2.1 hd rfl (h p l e R s m args below meth c D cy ad A C H locs ls hP hS hl)
theorem b_i2l {x : Int32} (hd : decode cc pc = .ok (.i2l, 1)) (h : Bk y cc nL rt dp (pc + 1) lv (vL x.toInt64 :: st) w o w') : Bk y cc nL rt dp pc lv (vI x :: st) w o w' := by
  intro p l e R s m args below meth c D cy ad A C H locs ls hP hS hl
  exact lv_i2l C.1 C.2.1 hd rfl (h p l e R s m args below meth c D cy ad A C H locs ls hP hS hl)
theorem b_l2i {x : Int64} (hd : decode cc pc = .ok (.l2i, 1)) (h : Bk y cc nL rt dp (pc + 1) lv (vI x.toInt32 :: st) w o w') : Bk y cc nL rt dp pc lv (vL x :: st) w o w' := by
  intro p l e R s m args below meth c D cy ad A C H locs ls hP hS hl
  exact lv_l2i C.1 C.2.1 hd rfl (h p l e R s m args below meth c D cy ad A C H locs ls hP hS hl)
theorem b_i2c {x : Int32} (hd : decode cc pc = .ok (.i2c, 1)) (h : Bk y cc nL rt dp (pc + 1) lv (vI (j2c x) :: st) w o w') : Bk y cc nL rt dp pc lv (vI x :: st) w o w' := by
  intro p l e R s m args below meth c D cy ad A C H locs ls hP hS hl
  exact lv_i2c C.1 C.2.1 hd rfl (h p l e R s m args below meth c D cy ad A C H locs ls hP hS hl)
theorem b_lcmp {x z : Int64} (hd : decode cc pc = .ok (.lcmp, 1)) (h : Bk y cc nL rt dp (pc + 1) lv (vI (lg_cmp x z) :: st) w o w') : Bk y cc nL rt dp pc lv (vL z :: vL x :: st) w o w' := by
  intro p l e R s m args below meth c D cy ad A C H locs ls hP hS hl
  exact W.lcmp C.1 C.2.1 hd (h p l e R s m args below meth c D cy ad A C H locs ls hP hS hl)
theorem b_iconst {n : Int} {v : Int32} (hd : decode cc pc = .ok (.iconst n, 1)) (hv : Int32.ofInt n = v) (h : Bk y cc nL rt dp (pc + 1) lv (vI v :: st) w o w') : Bk y cc nL rt dp pc lv (st) w o w' := by
  intro p l e R s m args below meth c D cy ad A C H locs ls hP hS hl
  exact lv_iconst C.1 C.2.1 hd hv (h p l e R s m args below meth c D cy ad A C H locs ls hP hS hl)
theorem b_bipush {n : Int} {v : Int32} (hd : decode cc pc = .ok (.bipush n, 2)) (hv : (Int8.ofInt n).toInt32 = v) (h : Bk y cc nL rt dp (pc + 2) lv (vI v :: st) w o w') : Bk y cc nL rt dp pc lv (st) w o w' := by
  intro p l e R s m args below meth c D cy ad A C H locs ls hP hS hl
  exact lv_bipush C.1 C.2.1 hd hv (h p l e R s m args below meth c D cy ad A C H locs ls hP hS hl)
theorem b_sipush {n : Int} {v : Int32} (hd : decode cc pc = .ok (.sipush n, 3)) (hv : (Int16.ofInt n).toInt32 = v) (h : Bk y cc nL rt dp (pc + 3) lv (vI v :: st) w o w') : Bk y cc nL rt dp pc lv (st) w o w' := by
  intro p l e R s m args below meth c D cy ad A C H locs ls hP hS hl
  exact lv_sipush C.1 C.2.1 hd hv (h p l e R s m args below meth c D cy ad A C H locs ls hP hS hl)
theorem b_lconst {n : Fin 2} {v : Int64} (hd : decode cc pc = .ok (.lconst n, 1)) (hv : Int64.ofNat (n : Nat) = v) (h : Bk y cc nL rt dp (pc + 1) lv (vL v :: st) w o w') : Bk y cc nL rt dp pc lv (st) w o w' := by
  intro p l e R s m args below meth c D cy ad A C H locs ls hP hS hl
  exact lv_lconst C.1 C.2.1 hd hv (h p l e R s m args below meth c D cy ad A C H locs ls hP hS hl)
theorem b_ifeq {x : Int32} {off : Int} {tgt : Nat} (hd : decode cc pc = .ok (.ifCond .eq off, 3)) (hg : (pc : Int) + off = (tgt : Int)) (ht : x = 0 → Bk y cc nL rt dp tgt lv st w o w') (hf : ¬ x = 0 → Bk y cc nL rt dp (pc + 3) lv st w o w') : Bk y cc nL rt dp pc lv (vI x :: st) w o w' := by
  intro p l e R s m args below meth c D cy ad A C H locs ls hP hS hl
  exact lv_if_eq C.1 C.2.1 hd hg (fun q => ht q p l e R s m args below meth c D cy ad A C H locs ls hP hS hl) (fun q => hf q p l e R s m args below meth c D cy ad A C H locs ls hP hS hl)
theorem b_ifne {x : Int32} {off : Int} {tgt : Nat} (hd : decode cc pc = .ok (.ifCond .ne off, 3)) (hg : (pc : Int) + off = (tgt : Int)) (ht : ¬ x = 0 → Bk y cc nL rt dp tgt lv st w o w') (hf : x = 0 → Bk y cc nL rt dp (pc + 3) lv st w o w') : Bk y cc nL rt dp pc lv (vI x :: st) w o w' := by
  intro p l e R s m args below meth c D cy ad A C H locs ls hP hS hl
  exact lv_if_ne C.1 C.2.1 hd hg (fun q => ht q p l e R s m args below meth c D cy ad A C H locs ls hP hS hl) (fun q => hf q p l e R s m args below meth c D cy ad A C H locs ls hP hS hl)
theorem b_iflt {x : Int32} {off : Int} {tgt : Nat} (hd : decode cc pc = .ok (.ifCond .lt off, 3)) (hg : (pc : Int) + off = (tgt : Int)) (ht : x < 0 → Bk y cc nL rt dp tgt lv st w o w') (hf : ¬ x < 0 → Bk y cc nL rt dp (pc + 3) lv st w o w') : Bk y cc nL rt dp pc lv (vI x :: st) w o w' := by
  intro p l e R s m args below meth c D cy ad A C H locs ls hP hS hl
  exact lv_if_lt C.1 C.2.1 hd hg (fun q => ht q p l e R s m args below meth c D cy ad A C H locs ls hP hS hl) (fun q => hf q p l e R s m args below meth c D cy ad A C H locs ls hP hS hl)
theorem b_ifge {x : Int32} {off : Int} {tgt : Nat} (hd : decode cc pc = .ok (.ifCond .ge off, 3)) (hg : (pc : Int) + off = (tgt : Int)) (ht : 0 ≤ x → Bk y cc nL rt dp tgt lv st w o w') (hf : ¬ 0 ≤ x → Bk y cc nL rt dp (pc + 3) lv st w o w') : Bk y cc nL rt dp pc lv (vI x :: st) w o w' := by
  intro p l e R s m args below meth c D cy ad A C H locs ls hP hS hl
  exact lv_if_ge C.1 C.2.1 hd hg (fun q => ht q p l e R s m args below meth c D cy ad A C H locs ls hP hS hl) (fun q => hf q p l e R s m args below meth c D cy ad A C H locs ls hP hS hl)
theorem b_ifgt {x : Int32} {off : Int} {tgt : Nat} (hd : decode cc pc = .ok (.ifCond .gt off, 3)) (hg : (pc : Int) + off = (tgt : Int)) (ht : 0 < x → Bk y cc nL rt dp tgt lv st w o w') (hf : ¬ 0 < x → Bk y cc nL rt dp (pc + 3) lv st w o w') : Bk y cc nL rt dp pc lv (vI x :: st) w o w' := by
  intro p l e R s m args below meth c D cy ad A C H locs ls hP hS hl
  exact lv_if_gt C.1 C.2.1 hd hg (fun q => ht q p l e R s m args below meth c D cy ad A C H locs ls hP hS hl) (fun q => hf q p l e R s m args below meth c D cy ad A C H locs ls hP hS hl)
theorem b_ifle {x : Int32} {off : Int} {tgt : Nat} (hd : decode cc pc = .ok (.ifCond .le off, 3)) (hg : (pc : Int) + off = (tgt : Int)) (ht : x ≤ 0 → Bk y cc nL rt dp tgt lv st w o w') (hf : ¬ x ≤ 0 → Bk y cc nL rt dp (pc + 3) lv st w o w') : Bk y cc nL rt dp pc lv (vI x :: st) w o w' := by
  intro p l e R s m args below meth c D cy ad A C H locs ls hP hS hl
  exact lv_if_le C.1 C.2.1 hd hg (fun q => ht q p l e R s m args below meth c D cy ad A C H locs ls hP hS hl) (fun q => hf q p l e R s m args below meth c D cy ad A C H locs ls hP hS hl)
theorem b_iceq {x z : Int32} {off : Int} {tgt : Nat} (hd : decode cc pc = .ok (.if_icmp .eq off, 3)) (hg : (pc : Int) + off = (tgt : Int)) (ht : x = z → Bk y cc nL rt dp tgt lv st w o w') (hf : ¬ x = z → Bk y cc nL rt dp (pc + 3) lv st w o w') : Bk y cc nL rt dp pc lv (vI z :: vI x :: st) w o w' := by
  intro p l e R s m args below meth c D cy ad A C H locs ls hP hS hl
  exact lv_icmp_eq C.1 C.2.1 hd hg (fun q => ht q p l e R s m args below meth c D cy ad A C H locs ls hP hS hl) (fun q => hf q p l e R s m args below meth c D cy ad A C H locs ls hP hS hl)
theorem b_icne {x z : Int32} {off : Int} {tgt : Nat} (hd : decode cc pc = .ok (.if_icmp .ne off, 3)) (hg : (pc : Int) + off = (tgt : Int)) (ht : ¬ x = z → Bk y cc nL rt dp tgt lv st w o w') (hf : x = z → Bk y cc nL rt dp (pc + 3) lv st w o w') : Bk y cc nL rt dp pc lv (vI z :: vI x :: st) w o w' := by
  intro p l e R s m args below meth c D cy ad A C H locs ls hP hS hl
  exact lv_icmp_ne C.1 C.2.1 hd hg (fun q => ht q p l e R s m args below meth c D cy ad A C H locs ls hP hS hl) (fun q => hf q p l e R s m args below meth c D cy ad A C H locs ls hP hS hl)
theorem b_iclt {x z : Int32} {off : Int} {tgt : Nat} (hd : decode cc pc = .ok (.if_icmp .lt off, 3)) (hg : (pc : Int) + off = (tgt : Int)) (ht : x < z → Bk y cc nL rt dp tgt lv st w o w') (hf : ¬ x < z → Bk y cc nL rt dp (pc + 3) lv st w o w') : Bk y cc nL rt dp pc lv (vI z :: vI x :: st) w o w' := by
  intro p l e R s m args below meth c D cy ad A C H locs ls hP hS hl
  exact lv_icmp_lt C.1 C.2.1 hd hg (fun q => ht q p l e R s m args below meth c D cy ad A C H locs ls hP hS hl) (fun q => hf q p l e R s m args below meth c D cy ad A C H locs ls hP hS hl)
theorem b_icge {x z : Int32} {off : Int} {tgt : Nat} (hd : decode cc pc = .ok (.if_icmp .ge off, 3)) (hg : (pc : Int) + off = (tgt : Int)) (ht : z ≤ x → Bk y cc nL rt dp tgt lv st w o w') (hf : ¬ z ≤ x → Bk y cc nL rt dp (pc + 3) lv st w o w') : Bk y cc nL rt dp pc lv (vI z :: vI x :: st) w o w' := by
  intro p l e R s m args below meth c D cy ad A C H locs ls hP hS hl
  exact lv_icmp_ge C.1 C.2.1 hd hg (fun q => ht q p l e R s m args below meth c D cy ad A C H locs ls hP hS hl) (fun q => hf q p l e R s m args below meth c D cy ad A C H locs ls hP hS hl)
theorem b_icgt {x z : Int32} {off : Int} {tgt : Nat} (hd : decode cc pc = .ok (.if_icmp .gt off, 3)) (hg : (pc : Int) + off = (tgt : Int)) (ht : z < x → Bk y cc nL rt dp tgt lv st w o w') (hf : ¬ z < x → Bk y cc nL rt dp (pc + 3) lv st w o w') : Bk y cc nL rt dp pc lv (vI z :: vI x :: st) w o w' := by
  intro p l e R s m args below meth c D cy ad A C H locs ls hP hS hl
  exact lv_icmp_gt C.1 C.2.1 hd hg (fun q => ht q p l e R s m args below meth c D cy ad A C H locs ls hP hS hl) (fun q => hf q p l e R s m args below meth c D cy ad A C H locs ls hP hS hl)
theorem b_icle {x z : Int32} {off : Int} {tgt : Nat} (hd : decode cc pc = .ok (.if_icmp .le off, 3)) (hg : (pc : Int) + off = (tgt : Int)) (ht : x ≤ z → Bk y cc nL rt dp tgt lv st w o w') (hf : ¬ x ≤ z → Bk y cc nL rt dp (pc + 3) lv st w o w') : Bk y cc nL rt dp pc lv (vI z :: vI x :: st) w o w' := by
  intro p l e R s m args below meth c D cy ad A C H locs ls hP hS hl
  exact lv_icmp_le C.1 C.2.1 hd hg (fun q => ht q p l e R s m args below meth c D cy ad A C H locs ls hP hS hl) (fun q => hf q p l e R s m args below meth c D cy ad A C H locs ls hP hS hl)
/-- a computed number gets a name -/
theorem b_nmI {x z : Int32} (h : z = x) (k : Bk y cc nL rt dp pc lv (vI z :: st) w o w') : Bk y cc nL rt dp pc lv (vI x :: st) w o w' := h ▸ k
theorem b_nmL {x z : Int64} (h : z = x) (k : Bk y cc nL rt dp pc lv (vL z :: st) w o w') : Bk y cc nL rt dp pc lv (vL x :: st) w o w' := h ▸ k
theorem b_iload {k i : Nat} {x : Int32} (hd : decode cc pc = .ok (.iload i, 2)) (hk : lv[k]? = some (i, vI x)) (h : Bk y cc nL rt dp (pc + 2) lv (vI x :: st) w o w') : Bk y cc nL rt dp pc lv st w o w' := by
  intro p l e R s m args below meth c D cy ad A C H locs ls hP hS hl
  exact lv_iload C.1 C.2.1 hd (lv_at hl k (lc_at hk)) (h p l e R s m args below meth c D cy ad A C H locs ls hP hS hl)
theorem b_iload_n {k i : Nat} {j : Fin 4} {x : Int32} (hd : decode cc pc = .ok (.iload_n j, 1)) (hj : (j : Nat) = i) (hk : lv[k]? = some (i, vI x)) (h : Bk y cc nL rt dp (pc + 1) lv (vI x :: st) w o w') : Bk y cc nL rt dp pc lv st w o w' := by
  intro p l e R s m args below meth c D cy ad A C H locs ls hP hS hl
  exact lv_iload_n C.1 C.2.1 hd hj (lv_at hl k (lc_at hk)) (h p l e R s m args below meth c D cy ad A C H locs ls hP hS hl)
theorem b_lload {k i : Nat} {x : Int64} (hd : decode cc pc = .ok (.lload i, 2)) (hk : lv[k]? = some (i, vL x)) (h : Bk y cc nL rt dp (pc + 2) lv (vL x :: st) w o w') : Bk y cc nL rt dp pc lv st w o w' := by
  intro p l e R s m args below meth c D cy ad A C H locs ls hP hS hl
  exact lv_lload C.1 C.2.1 hd (lv_at hl k (lc_at hk)) (h p l e R s m args below meth c D cy ad A C H locs ls hP hS hl)
theorem b_lload_n {k i : Nat} {j : Fin 4} {x : Int64} (hd : decode cc pc = .ok (.lload_n j, 1)) (hj : (j : Nat) = i) (hk : lv[k]? = some (i, vL x)) (h : Bk y cc nL rt dp (pc + 1) lv (vL x :: st) w o w') : Bk y cc nL rt dp pc lv st w o w' := by
  intro p l e R s m args below meth c D cy ad A C H locs ls hP hS hl
  exact lv_lload_n C.1 C.2.1 hd hj (lv_at hl k (lc_at hk)) (h p l e R s m args below meth c D cy ad A C H locs ls hP hS hl)
theorem b_aload {k i a b : Nat} (hd : decode cc pc = .ok (.aload i, 2)) (hk : lv[k]? = some (i, vR a b)) (h : Bk y cc nL rt dp (pc + 2) lv (vR a b :: st) w o w') : Bk y cc nL rt dp pc lv st w o w' := by
  intro p l e R s m args below meth c D cy ad A C H locs ls hP hS hl
  exact lv_aload C.1 C.2.1 hd (lv_at hl k (lc_at hk)) (h p l e R s m args below meth c D cy ad A C H locs ls hP hS hl)
theorem b_aload_n {k i a b : Nat} {j : Fin 4} (hd : decode cc pc = .ok (.aload_n j, 1)) (hj : (j : Nat) = i) (hk : lv[k]? = some (i, vR a b)) (h : Bk y cc nL rt dp (pc + 1) lv (vR a b :: st) w o w') : Bk y cc nL rt dp pc lv st w o w' := by
  intro p l e R s m args below meth c D cy ad A C H locs ls hP hS hl
  exact lv_aload_n C.1 C.2.1 hd hj (lv_at hl k (lc_at hk)) (h p l e R s m args below meth c D cy ad A C H locs ls hP hS hl)
theorem b_aload_nN {k i : Nat} {j : Fin 4} (hd : decode cc pc = .ok (.aload_n j, 1)) (hj : (j : Nat) = i) (hk : lv[k]? = some (i, vN)) (h : Bk y cc nL rt dp (pc + 1) lv (vN :: st) w o w') : Bk y cc nL rt dp pc lv st w o w' := by
  intro p l e R s m args below meth c D cy ad A C H locs ls hP hS hl
  exact lv_aload_nN C.1 C.2.1 hd hj (lv_at hl k (lc_at hk)) (h p l e R s m args below meth c D cy ad A C H locs ls hP hS hl)
theorem b_istore {i : Nat} {x : Int32} (hd : decode cc pc = .ok (.istore i, 2)) (hn : i < nL) (hl' : (i, vI x) :: lv.filter (fun q => !(q.1 == i) && !(q.1 + 1 == i && isL q.2)) = lv') (h : Bk y cc nL rt dp (pc + 2) lv' st w o w') : Bk y cc nL rt dp pc lv (vI x :: st) w o w' := by
  intro p l e R s m args below meth c D cy ad A C H locs ls hP hS hl
  exact lv_istore C.1 C.2.1 hd hl hn (lc_store hl') (fun ls' hl2 => h p l e R s m args below meth c D cy ad A C H locs ls' hP hS hl2)
theorem b_istore_n {i : Nat} {j : Fin 4} {x : Int32} (hd : decode cc pc = .ok (.istore_n j, 1)) (hj : (j : Nat) = i) (hn : i < nL) (hl' : (i, vI x) :: lv.filter (fun q => !(q.1 == i) && !(q.1 + 1 == i && isL q.2)) = lv') (h : Bk y cc nL rt dp (pc + 1) lv' st w o w') : Bk y cc nL rt dp pc lv (vI x :: st) w o w' := by
  intro p l e R s m args below meth c D cy ad A C H locs ls hP hS hl
  exact lv_istore_n C.1 C.2.1 hd hj hl hn (lc_store hl') (fun ls' hl2 => h p l e R s m args below meth c D cy ad A C H locs ls' hP hS hl2)
theorem b_astore {i a b : Nat} (hd : decode cc pc = .ok (.astore i, 2)) (hn : i < nL) (hl' : (i, vR a b) :: lv.filter (fun q => !(q.1 == i) && !(q.1 + 1 == i && isL q.2)) = lv') (h : Bk y cc nL rt dp (pc + 2) lv' st w o w') : Bk y cc nL rt dp pc lv (vR a b :: st) w o w' := by
  intro p l e R s m args below meth c D cy ad A C H locs ls hP hS hl
  exact lv_astore C.1 C.2.1 hd hl hn (lc_store hl') (fun ls' hl2 => h p l e R s m args below meth c D cy ad A C H locs ls' hP hS hl2)
theorem b_astore_n {i a b : Nat} {j : Fin 4} (hd : decode cc pc = .ok (.astore_n j, 1)) (hj : (j : Nat) = i) (hn : i < nL) (hl' : (i, vR a b) :: lv.filter (fun q => !(q.1 == i) && !(q.1 + 1 == i && isL q.2)) = lv') (h : Bk y cc nL rt dp (pc + 1) lv' st w o w') : Bk y cc nL rt dp pc lv (vR a b :: st) w o w' := by
  intro p l e R s m args below meth c D cy ad A C H locs ls hP hS hl
  exact lv_astore_n C.1 C.2.1 hd hj hl hn (lc_store hl') (fun ls' hl2 => h p l e R s m args below meth c D cy ad A C H locs ls' hP hS hl2)
theorem b_astore_nN {i : Nat} {j : Fin 4} (hd : decode cc pc = .ok (.astore_n j, 1)) (hj : (j : Nat) = i) (hn : i < nL) (hl' : (i, vN) :: lv.filter (fun q => !(q.1 == i) && !(q.1 + 1 == i && isL q.2)) = lv') (h : Bk y cc nL rt dp (pc + 1) lv' st w o w') : Bk y cc nL rt dp pc lv (vN :: st) w o w' := by
  intro p l e R s m args below meth c D cy ad A C H locs ls hP hS hl
  exact lv_astore_nN C.1 C.2.1 hd hj hl hn (lc_store hl') (fun ls' hl2 => h p l e R s m args below meth c D cy ad A C H locs ls' hP hS hl2)
theorem b_iinc {k i : Nat} {n : Int} {x v : Int32} (hd : decode cc pc = .ok (.iinc i n, 3)) (hk : lv[k]? = some (i, vI x)) (hv : x + Int32.ofInt n = v) (hn : i < nL) (hl' : (i, vI v) :: lv.filter (fun q => !(q.1 == i) && !(q.1 + 1 == i && isL q.2)) = lv') (h : Bk y cc nL rt dp (pc + 3) lv' st w o w') : Bk y cc nL rt dp pc lv st w o w' := by
  intro p l e R s m args below meth c D cy ad A C H locs ls hP hS hl
  exact lv_iinc C.1 C.2.1 hd hl (lc_at hk) hv hn (lc_store hl') (fun ls' hl2 => h p l e R s m args below meth c D cy ad A C H locs ls' hP hS hl2)
theorem b_dup {v : AV} (hd : decode cc pc = .ok (.dup, 1)) (hv : isL v = false) (h : Bk y cc nL rt dp (pc + 1) lv (v :: v :: st) w o w') : Bk y cc nL rt dp pc lv (v :: st) w o w' := by
  intro p l e R s m args below meth c D cy ad A C H locs ls hP hS hl
  exact lv_dup C.1 C.2.1 hd (cat_1 hv) (h p l e R s m args below meth c D cy ad A C H locs ls hP hS hl)
theorem b_dup_x1 {v u : AV} (hd : decode cc pc = .ok (.dup_x1, 1)) (hv : isL v = false) (hu : isL u = false) (h : Bk y cc nL rt dp (pc + 1) lv (v :: u :: v :: st) w o w') : Bk y cc nL rt dp pc lv (v :: u :: st) w o w' := by
  intro p l e R s m args below meth c D cy ad A C H locs ls hP hS hl
  exact lv_dup_x1 C.1 C.2.1 hd (cat_1 hv) (cat_1 hu) (h p l e R s m args below meth c D cy ad A C H locs ls hP hS hl)
theorem b_dup2 {v u : AV} (hd : decode cc pc = .ok (.dup2, 1)) (hv : isL v = false) (hu : isL u = false) (h : Bk y cc nL rt dp (pc + 1) lv (v :: u :: v :: u :: st) w o w') : Bk y cc nL rt dp pc lv (v :: u :: st) w o w' := by
  intro p l e R s m args below meth c D cy ad A C H locs ls hP hS hl
  exact lv_dup2_11 C.1 C.2.1 hd (cat_1 hv) (cat_1 hu) (h p l e R s m args below meth c D cy ad A C H locs ls hP hS hl)
theorem b_pop {v : AV} (hd : decode cc pc = .ok (.pop, 1)) (hv : isL v = false) (h : Bk y cc nL rt dp (pc + 1) lv st w o w') : Bk y cc nL rt dp pc lv (v :: st) w o w' := by
  intro p l e R s m args below meth c D cy ad A C H locs ls hP hS hl
  exact lv_pop C.1 C.2.1 hd (cat_1 hv) (h p l e R s m args below meth c D cy ad A C H locs ls hP hS hl)
theorem b_goto {off : Int} {tgt : Nat} (hd : decode cc pc = .ok (.goto off, 3)) (ht : (pc : Int) + off = (tgt : Int)) (h : Bk y cc nL rt dp tgt lv st w o w') : Bk y cc nL rt dp pc lv st w o w' := by
  intro p l e R s m args below meth c D cy ad A C H locs ls hP hS hl
  exact lv_goto C.1 C.2.1 hd ht (h p l e R s m args below meth c D cy ad A C H locs ls hP hS hl)
theorem b_null (hd : decode cc pc = .ok (.aconst_null, 1)) (h : Bk y cc nL rt dp (pc + 1) lv (vN :: st) w o w') : Bk y cc nL rt dp pc lv st w o w' := by
  intro p l e R s m args below meth c D cy ad A C H locs ls hP hS hl
  exact lv_null C.1 C.2.1 hd (h p l e R s m args below meth c D cy ad A C H locs ls hP hS hl)
theorem b_ifnonnull {a b : Nat} {off : Int} {tgt : Nat} (hd : decode cc pc = .ok (.ifnonnull off, 3)) (ht : (pc : Int) + off = (tgt : Int)) (h : Bk y cc nL rt dp tgt lv st w o w') : Bk y cc nL rt dp pc lv (vR a b :: st) w o w' := by
  intro p l e R s m args below meth c D cy ad A C H locs ls hP hS hl
  exact lv_ifnonnull C.1 C.2.1 hd ht (h p l e R s m args below meth c D cy ad A C H locs ls hP hS hl)
theorem b_ifnonnullN {off : Int} (hd : decode cc pc = .ok (.ifnonnull off, 3)) (h : Bk y cc nL rt dp (pc + 3) lv st w o w') : Bk y cc nL rt dp pc lv (vN :: st) w o w' := by
  intro p l e R s m args below meth c D cy ad A C H locs ls hP hS hl
  exact lv_ifnonnullN C.1 C.2.1 hd (h p l e R s m args below meth c D cy ad A C H locs ls hP hS hl)
theorem b_ifnull {a b : Nat} {off : Int} (hd : decode cc pc = .ok (.ifnull off, 3)) (h : Bk y cc nL rt dp (pc + 3) lv st w o w') : Bk y cc nL rt dp pc lv (vR a b :: st) w o w' := by
  intro p l e R s m args below meth c D cy ad A C H locs ls hP hS hl
  exact lv_ifnull C.1 C.2.1 hd (h p l e R s m args below meth c D cy ad A C H locs ls hP hS hl)
theorem b_ldc {i : Nat} {v : Int32} (hd : decode cc pc = .ok (.ldc i, 2)) (hc : Cond.constant y.cls i v ∈ tG) (h : Bk y cc nL rt dp (pc + 2) lv (vI v :: st) w o w') : Bk y cc nL rt dp pc lv st w o w' := by
  intro p l e R s m args below meth c D cy ad A C H locs ls hP hS hl
  exact lv_ldc C.1 C.2.1 C.2.2.2.2.2.1 (C.2.2.2.2.2.2.1 _ hc) hd (h p l e R s m args below meth c D cy ad A C H locs ls hP hS hl)
theorem b_ldcw {i : Nat} {v : Int32} (hd : decode cc pc = .ok (.ldc_w i, 3)) (hc : Cond.constant y.cls i v ∈ tG) (h : Bk y cc nL rt dp (pc + 3) lv (vI v :: st) w o w') : Bk y cc nL rt dp pc lv st w o w' := by
  intro p l e R s m args below meth c D cy ad A C H locs ls hP hS hl
  exact lv_ldcw C.1 C.2.1 C.2.2.2.2.2.1 (C.2.2.2.2.2.2.1 _ hc) hd (h p l e R s m args below meth c D cy ad A C H locs ls hP hS hl)
theorem b_ldc2 {i : Nat} {v : Int64} (hd : decode cc pc = .ok (.ldc2_w i, 3)) (hc : Cond.constantLong y.cls i v ∈ tG) (h : Bk y cc nL rt dp (pc + 3) lv (vL v :: st) w o w') : Bk y cc nL rt dp pc lv st w o w' := by
  intro p l e R s m args below meth c D cy ad A C H locs ls hP hS hl
  exact lv_ldc2 C.1 C.2.1 C.2.2.2.2.2.1 (C.2.2.2.2.2.2.1 _ hc) hd (h p l e R s m args below meth c D cy ad A C H locs ls hP hS hl)
theorem b_sub (ks : List Nat) (hk : ks.filterMap (fun k => lv[k]?) = lv') (h : Bk y cc nL rt dp pc lv' st w o w') : Bk y cc nL rt dp pc lv st w o w' := by
  intro p l e R s m args below meth c D cy ad A C H locs ls hP hS hl
  refine h p l e R s m args below meth c D cy ad A C H locs ls hP hS ⟨hl.1, hl.2.1, fun q hq => ?_⟩
  subst hk
  obtain ⟨z, hz, rfl⟩ := List.mem_map.mp hq
  obtain ⟨i, -, hi⟩ := List.mem_filterMap.mp hz
  exact hl.2.2 _ (List.mem_map.mpr ⟨z, List.mem_of_getElem? hi, rfl⟩)
theorem b_nmW {v : Mem} (h : v = w) (k : Bk y cc nL rt dp pc lv st v o w') : Bk y cc nL rt dp pc lv st w o w' := h ▸ k
theorem b_tabIn {x : Int32} {dflt lo hi off : Int} {offs : Array Int} {len tgt : Nat} {j : Int} (hx : x.toInt = j) (hd : decode cc pc = .ok (.tableswitch dflt lo hi offs, len)) (h1 : ¬ j < lo) (h2 : ¬ hi < j) (ho : offs[(j - lo).toNat]? = some off) (ht : (pc : Int) + off = (tgt : Int)) (h : Bk y cc nL rt dp tgt lv st w o w') : Bk y cc nL rt dp pc lv (vI x :: st) w o w' := by
  subst hx
  intro p l e R s m args below meth c D cy ad A C H locs ls hP hS hl
  exact lv_tableIn C.1 C.2.1 hd h1 h2 ho ht (h p l e R s m args below meth c D cy ad A C H locs ls hP hS hl)
theorem b_tabOut {x : Int32} {dflt lo hi : Int} {offs : Array Int} {len tgt : Nat} (hd : decode cc pc = .ok (.tableswitch dflt lo hi offs, len)) (hx : x.toInt < lo ∨ hi < x.toInt) (ht : (pc : Int) + dflt = (tgt : Int)) (h : Bk y cc nL rt dp tgt lv st w o w') : Bk y cc nL rt dp pc lv (vI x :: st) w o w' := by
  intro p l e R s m args below meth c D cy ad A C H locs ls hP hS hl
  exact lv_tableOut C.1 C.2.1 hd hx ht (h p l e R s m args below meth c D cy ad A C H locs ls hP hS hl)
end Rules
/-- names, guards and calls in the pure functions -/
def bnd {α β : Type} (e : α) (f : α → β) : β := f e
def bndO {β : Type} (e : Option (Int32 × Mem)) (f : Int32 → Mem → Option β) : Option β := match e with
  | none => none
  | some q => f q.1 q.2
def bndV {β : Type} (e : Option Mem) (f : Mem → Option β) : Option β := match e with
  | none => none
  | some q => f q
theorem nmE {α β : Type} {e : α} {f : α → β} {v : β} (h : bnd e f = v) : ∃ x, x = e ∧ f x = v := ⟨e, rfl, h⟩
theorem bdO {β : Type} {e : Option (Int32 × Mem)} {f : Int32 → Mem → Option β} {v : β} (h : bndO e f = some v) : ∃ r w, e = some (r, w) ∧ f r w = some v := by
  cases e with
  | none => cases h
  | some q => exact ⟨q.1, q.2, rfl, h⟩
theorem bdV {β : Type} {e : Option Mem} {f : Mem → Option β} {v : β} (h : bndV e f = some v) : ∃ w, e = some w ∧ f w = some v := by
  cases e with
  | none => cases h
  | some q => exact ⟨q, rfl, h⟩
theorem ifT {α : Type} {c : Prop} [Decidable c] {a b v : α} (hc : c) (h : (if c then a else b) = v) : a = v := by rwa [if_pos hc] at h
theorem ifF {α : Type} {c : Prop} [Decidable c] {a b v : α} (hc : ¬ c) (h : (if c then a else b) = v) : b = v := by rwa [if_neg hc] at h
theorem gdE {α : Type} {c : Prop} [Decidable c] {a : Option α} {v : α} (h : (if c then none else a) = some v) : ¬ c ∧ a = some v := by
  by_cases hc : c
  · rw [if_pos hc] at h; cases h
  · rw [if_neg hc] at h; exact ⟨hc, h⟩
theorem gdP {α : Type} {c : Prop} [Decidable c] {a : Option α} {v : α} (h : (if c then a else none) = some v) : c ∧ a = some v := by
  by_cases hc : c
  · rw [if_pos hc] at h; exact ⟨hc, h⟩
  · rw [if_neg hc] at h; cases h
/-- the rock that a field holds; the text that the reader holds -/
def rk (q : Nat × Nat) : Option Nat := if q = (24, 0) then some 24 else if q = (25, 0) then some 25 else none
theorem bdR {β : Type} {q : Nat × Nat} {f : Nat → Option β} {v : β} (h : (rk q).bind f = some v) : ∃ d, q = (d, 0) ∧ Ob d 6 ∧ f d = some v := by
  unfold rk at h
  by_cases h1 : q = (24, 0)
  · rw [if_pos h1] at h; exact ⟨24, h1, ⟨rfl, by decide +kernel⟩, h⟩
  · rw [if_neg h1] at h
    by_cases h2 : q = (25, 0)
    · rw [if_pos h2] at h; exact ⟨25, h2, ⟨rfl, by decide +kernel⟩, h⟩
    · rw [if_neg h2] at h; cases h
