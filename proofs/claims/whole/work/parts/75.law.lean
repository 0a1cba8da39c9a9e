/-! the law: its calls, its cases, its loop -/
def LC (p : Program) (s : State) (m : MethodId) (c : Code) (b L : Nat) (xs : Nat → Int32) (D : va_G) (cy : Nat → ClassId) (ad : Nat × Nat → Nat) (A : Nat → Prop) : Prop :=
  p.tables.exec = Jvm.exec ∧ c.code = code ∧ c.maxLocals = 4 ∧ s.vm.findClass RL = some m.cls ∧ (∀ w ∈ tG, w.before #[Value.ref b] s = true) ∧ va_K D vwCl (tysL cy) s ∧ AdOk A ad ∧ NW s ∧ va_X b L xs s s.heap ∧ b < s.heap.size ∧ ¬ A b
theorem and31 (x : Int32) : ∃ c, c < 32 ∧ x &&& nI 31 = nI c := by
  have hl : (x &&& nI 31).toBitVec.toNat < 32 := by
    rw [Int32.toBitVec_and, BitVec.toNat_and]
    have : x.toBitVec.toNat &&& (nI 31).toBitVec.toNat ≤ (nI 31).toBitVec.toNat := Nat.and_le_right
    have e : (nI 31).toBitVec.toNat = 31 := by decide
    omega
  refine ⟨(x &&& nI 31).toBitVec.toNat, hl, ?_⟩
  generalize x &&& nI 31 = z at hl
  apply Int32.toBitVec_inj.mp
  apply BitVec.eq_of_toNat_eq
  have e1 : (nI z.toBitVec.toNat).toInt = (z.toBitVec.toNat : Int) := nI_ti (by omega)
  have e2 := BitVec.toInt_eq_toNat_cond (nI z.toBitVec.toNat).toBitVec
  have e3 : (nI z.toBitVec.toNat).toBitVec.toInt = (nI z.toBitVec.toNat).toInt := rfl
  have e4 := (nI z.toBitVec.toNat).toBitVec.isLt
  rw [e3, e1] at e2
  split at e2 <;> omega
section Law
variable {p : Program} {l : Launch} {e : Env} {s : State} {m : MethodId} {below : List Frame} {meth : Method} {c : Code} {b L : Nat} {xs : Nat → Int32} {D : va_G} {cy : Nat → ClassId} {ad : Nat × Nat → Nat} {A : Nat → Prop} {cells slots : Nat} {Q : State → Prop} {H : Heap} {locs : List Loc} {ls : Array Slot}
theorem lw_callV {y2 : MethodName} {cc2 : ByteArray} {nL2 n c2 d idx pc : Nat} {dp2 : Nat} {as : List AV} {S rest : List Value} {r : Int32} {w w1 : Mem} (C : LC p s m c b L xs D cy ad A) (hM : MV y2 cc2 nL2 (some .int) n c2) (hlk : Cond.methodLink RL idx y2 ∈ tG) (hO : Ob d c2) (hs : Sp y2 cc2 nL2 (some .int) dp2 (vR d 0 :: as) w (some (vI r)) w1)
    (hn : as.length = n) (hdp : dp2 + 1 ≤ 2048) (hlo : 8 + (nL2 + 11) + 40 * dp2 ≤ 84000) (hst : (rest.map fun v => v.category).sum ≤ 8) (hS0 : S = (as.map (cv ad)).reverse ++ .ref (ad (d, 0)) :: rest) (hd : decode code pc = .ok (.invokevirtual idx, 3)) (hls : ls.size = 4) (hP : va_P D vwCl (wld cy ad w) H) (hS : va_S A s.heap H locs)
    (kk : ∀ (H1 : Heap) (locs1 : List Loc), va_P D vwCl (wld cy ad w1) H1 → va_S A s.heap H1 locs1 → W p l e room_1 s m #[Value.ref b] below meth c H1 locs1 cells slots Q (F0 m (pc + 3) ls (.int r :: rest))) (hc : cells ≤ 600000) (hsl : slots ≤ 7302250) : W p l e room_1 s m #[Value.ref b] below meth c H locs cells slots Q (F0 m pc ls S) := by
  obtain ⟨⟨hcd, hi, hnm⟩, hin, hse, T, N, hcl⟩ := hM
  obtain ⟨j, hj, hw⟩ := wld_at (cy := cy) (ad := ad) (w := w) hO.2
  rw [ent_ob hO.1] at hw
  have hts := C.2.2.2.2.1
  have hK := C.2.2.2.2.2.1
  have hr : va_Run p l e room_1 s m #[Value.ref b] below meth c H locs cells slots 0 0 (F0 m pc ls S) rest (QQ D cy ad A (some (vI r)) w1 (Value.ref (ad (d, 0)) :: as.map (cv ad)).toArray) A := by
    refine va_runV (n := n) (C := y2.cls) (bytes := cc2) (maxL := nL2) (ret := some .int) (b := ad (d, 0)) (As := as.map (cv ad)) (rest := rest) (Ts := tG) (own := RL) (index := idx) (cc := code) (nL := 4) ⟨C.1, C.2.1, C.2.2.1, C.2.2.2.1, hts⟩ (hs l D cy ad A C.2.2.2.2.2.2.1) ⟨callB_of n hts (goodG hcd) rfl rfl rfl (hts _ hi) (hts _ hlk) hnm ⟨hdp, hlo⟩, hts _ hin, hts _ hse⟩
      ⟨blind, va_recv hK hP hcl hw, fun U hU hW => ⟨rfl, by rw [hU]; exact hP, va_K.moved hW.alike hK, NW.warm hW C.2.2.2.2.2.2.2.1⟩⟩ rfl (by rw [cat_len]; exact hn) hls ?_ (lv_room hst) hd ⟨hc, hsl⟩
    rw [hS0]
  intro T0 hT X
  obtain ⟨v, st₀, t, T', L0, h0, X', hL, e1, e2, ⟨hv, hP1, hz, hk⟩, go⟩ := hr T0 hT X
  cases hv
  rw [h0] at hz hk
  have hS1 : va_S A s.heap T'.heap (locs ++ L0) := ⟨Nat.le_trans hS.1 (by rw [e1]; exact hz), fun q h1 h2 => by rw [e1, hk q (Nat.lt_of_lt_of_le h1 hS.1) h2]; exact hS.2.1 q h1 h2, fun q hq => by
    rcases List.mem_append.mp hq with z | z
    · exact hS.2.2 q z
    · exact hL q z⟩
  rw [← e1] at hP1
  obtain ⟨t2, a1, b1⟩ := kk T'.heap (locs ++ L0) hP1 hS1 T' rfl X'
  exact ⟨t2, go t2 a1, b1⟩
theorem lk_feed (C : LC p s m c b L xs D cy ad A) {i j : Nat} {w : Mem} (hi : i + 2 < L) (hL : L ≤ 192) (hn : j < 100) (hr : Rel j w) (hP : va_P D vwCl (wld cy ad w) H) (hS : va_S A s.heap H locs) (hl : lv_has ls 4 [(0, .ref b), (1, .ref (ad (26, 0))), (2, .ref (ad (32, 0))), (3, .int (nI i))]) (hc : cells ≤ 600000) (hsl : slots ≤ 7302250)
    (kk : ∀ (w' : Mem) (H : Heap) (locs : List Loc), Rel (j + 1) w' → va_P D vwCl (wld cy ad w') H → va_S A s.heap H locs → W p l e room_1 s m #[Value.ref b] below meth c H locs cells slots Q (F0 m 807 ls [])) : W p l e room_1 s m #[Value.ref b] below meth c H locs cells slots Q (F0 m 156 ls []) := by
  have hX := C.2.2.2.2.2.2.2.2.1
  have hbl := C.2.2.2.2.2.2.2.2.2.1
  have hbA := C.2.2.2.2.2.2.2.2.2.2
  obtain ⟨r, w1, w2, e1, e2, hr2⟩ := q_feed hn hr (xs (nI (i + 1)).toNatClampNeg)
  refine lv_aload_n C.1 C.2.1 dL_law_156 rfl (lv_at hl 1 rfl) ?_
  refine lv_aload_n C.1 C.2.1 dL_law_157 rfl (lv_at hl 0 rfl) ?_
  refine lv_iload_n C.1 C.2.1 dL_law_158 rfl (lv_at hl 3 rfl) ?_
  refine lv_iconst (v := nI 1) C.1 C.2.1 dL_law_159 (by decide) ?_
  refine lv_iadd C.1 C.2.1 dL_law_160 ?_
  rw [nI_add]
  refine va_sld C.1 C.2.1 hX hbl hbA hS (nI_in (show i + 1 < L by omega) (by omega)) dL_law_161 ?_
  refine lw_callV C (as := [vI (xs (nI (i + 1)).toNatClampNeg)]) (rest := []) mvL7_feed mlL7_feed (d := 26) ⟨rfl, by decide +kernel⟩ (s7_feed (xs (nI (i + 1)).toNatClampNeg) _ _ _ e1) rfl (Nat.le_of_ble_eq_true rfl) (Nat.le_of_ble_eq_true rfl) (Nat.le_of_ble_eq_true rfl) rfl dL_law_162 hl.1 hP hS (fun H locs hP hS => ?_) hc hsl
  refine lv_aload_n C.1 C.2.1 dL_law_165 rfl (lv_at hl 2 rfl) ?_
  refine lv_aload_n C.1 C.2.1 dL_law_166 rfl (lv_at hl 0 rfl) ?_
  refine lv_iload_n C.1 C.2.1 dL_law_167 rfl (lv_at hl 3 rfl) ?_
  refine lv_iconst (v := nI 1) C.1 C.2.1 dL_law_168 (by decide) ?_
  refine lv_iadd C.1 C.2.1 dL_law_169 ?_
  rw [nI_add]
  refine va_sld C.1 C.2.1 hX hbl hbA hS (nI_in (show i + 1 < L by omega) (by omega)) dL_law_170 ?_
  refine lw_callV C (as := [vI (xs (nI (i + 1)).toNatClampNeg)]) (rest := [.int r]) mvL8_feed mlL8_feed (d := 32) ⟨rfl, by decide +kernel⟩ (s8_feed (xs (nI (i + 1)).toNatClampNeg) _ _ _ e2) rfl (Nat.le_of_ble_eq_true rfl) (Nat.le_of_ble_eq_true rfl) (Nat.le_of_ble_eq_true rfl) rfl dL_law_171 hl.1 hP hS (fun H locs hP hS => ?_) hc hsl
  refine lv_icmp_eq (tgt := 807) C.1 C.2.1 dL_law_174 (by decide) (fun _ => ?_) (fun z => absurd rfl z)
  exact kk w2 H locs hr2 hP hS
theorem lk_rock (C : LC p s m c b L xs D cy ad A) {i j : Nat} {w : Mem} (hi : i + 2 < L) (hL : L ≤ 192) (hn : j < 100) (hr : Rel j w) (hP : va_P D vwCl (wld cy ad w) H) (hS : va_S A s.heap H locs) (hl : lv_has ls 4 [(0, .ref b), (1, .ref (ad (26, 0))), (2, .ref (ad (32, 0))), (3, .int (nI i))]) (hc : cells ≤ 600000) (hsl : slots ≤ 7302250)
    (kk : ∀ (w' : Mem) (H : Heap) (locs : List Loc), Rel (j + 1) w' → va_P D vwCl (wld cy ad w') H → va_S A s.heap H locs → W p l e room_1 s m #[Value.ref b] below meth c H locs cells slots Q (F0 m 807 ls [])) : W p l e room_1 s m #[Value.ref b] below meth c H locs cells slots Q (F0 m 179 ls []) := by
  have hX := C.2.2.2.2.2.2.2.2.1
  have hbl := C.2.2.2.2.2.2.2.2.2.1
  have hbA := C.2.2.2.2.2.2.2.2.2.2
  obtain ⟨r, w1, w2, e1, e2, hr2⟩ := q_rock hn hr 
  refine lv_aload_n C.1 C.2.1 dL_law_179 rfl (lv_at hl 1 rfl) ?_
  refine lw_callV C (as := []) (rest := []) mvL7_rock mlL7_rock (d := 26) ⟨rfl, by decide +kernel⟩ (s7_rock  _ _ _ e1) rfl (Nat.le_of_ble_eq_true rfl) (Nat.le_of_ble_eq_true rfl) (Nat.le_of_ble_eq_true rfl) rfl dL_law_180 hl.1 hP hS (fun H locs hP hS => ?_) hc hsl
  refine lv_aload_n C.1 C.2.1 dL_law_183 rfl (lv_at hl 2 rfl) ?_
  refine lw_callV C (as := []) (rest := [.int r]) mvL8_rock mlL8_rock (d := 32) ⟨rfl, by decide +kernel⟩ (s8_rock  _ _ _ e2) rfl (Nat.le_of_ble_eq_true rfl) (Nat.le_of_ble_eq_true rfl) (Nat.le_of_ble_eq_true rfl) rfl dL_law_184 hl.1 hP hS (fun H locs hP hS => ?_) hc hsl
  refine lv_icmp_eq (tgt := 807) C.1 C.2.1 dL_law_187 (by decide) (fun _ => ?_) (fun z => absurd rfl z)
  exact kk w2 H locs hr2 hP hS
theorem lk_fault (C : LC p s m c b L xs D cy ad A) {i j : Nat} {w : Mem} (hi : i + 2 < L) (hL : L ≤ 192) (hn : j < 100) (hr : Rel j w) (hP : va_P D vwCl (wld cy ad w) H) (hS : va_S A s.heap H locs) (hl : lv_has ls 4 [(0, .ref b), (1, .ref (ad (26, 0))), (2, .ref (ad (32, 0))), (3, .int (nI i))]) (hc : cells ≤ 600000) (hsl : slots ≤ 7302250)
    (kk : ∀ (w' : Mem) (H : Heap) (locs : List Loc), Rel (j + 1) w' → va_P D vwCl (wld cy ad w') H → va_S A s.heap H locs → W p l e room_1 s m #[Value.ref b] below meth c H locs cells slots Q (F0 m 807 ls [])) : W p l e room_1 s m #[Value.ref b] below meth c H locs cells slots Q (F0 m 192 ls []) := by
  have hX := C.2.2.2.2.2.2.2.2.1
  have hbl := C.2.2.2.2.2.2.2.2.2.1
  have hbA := C.2.2.2.2.2.2.2.2.2.2
  obtain ⟨r, w1, w2, e1, e2, hr2⟩ := q_fault hr 
  refine lv_aload_n C.1 C.2.1 dL_law_192 rfl (lv_at hl 1 rfl) ?_
  refine lw_callV C (as := []) (rest := []) mvL7_fault mlL7_fault (d := 26) ⟨rfl, by decide +kernel⟩ (s7_fault  _ _ _ e1) rfl (Nat.le_of_ble_eq_true rfl) (Nat.le_of_ble_eq_true rfl) (Nat.le_of_ble_eq_true rfl) rfl dL_law_193 hl.1 hP hS (fun H locs hP hS => ?_) hc hsl
  refine lv_aload_n C.1 C.2.1 dL_law_196 rfl (lv_at hl 2 rfl) ?_
  refine lw_callV C (as := []) (rest := [.int r]) mvL8_fault mlL8_fault (d := 32) ⟨rfl, by decide +kernel⟩ (s8_fault  _ _ _ e2) rfl (Nat.le_of_ble_eq_true rfl) (Nat.le_of_ble_eq_true rfl) (Nat.le_of_ble_eq_true rfl) rfl dL_law_197 hl.1 hP hS (fun H locs hP hS => ?_) hc hsl
  refine lv_icmp_eq (tgt := 807) C.1 C.2.1 dL_law_200 (by decide) (fun _ => ?_) (fun z => absurd rfl z)
  exact kk w2 H locs hr2 hP hS
theorem lk_told (C : LC p s m c b L xs D cy ad A) {i j : Nat} {w : Mem} (hi : i + 2 < L) (hL : L ≤ 192) (hn : j < 100) (hr : Rel j w) (hP : va_P D vwCl (wld cy ad w) H) (hS : va_S A s.heap H locs) (hl : lv_has ls 4 [(0, .ref b), (1, .ref (ad (26, 0))), (2, .ref (ad (32, 0))), (3, .int (nI i))]) (hc : cells ≤ 600000) (hsl : slots ≤ 7302250)
    (kk : ∀ (w' : Mem) (H : Heap) (locs : List Loc), Rel (j + 1) w' → va_P D vwCl (wld cy ad w') H → va_S A s.heap H locs → W p l e room_1 s m #[Value.ref b] below meth c H locs cells slots Q (F0 m 807 ls [])) : W p l e room_1 s m #[Value.ref b] below meth c H locs cells slots Q (F0 m 205 ls []) := by
  have hX := C.2.2.2.2.2.2.2.2.1
  have hbl := C.2.2.2.2.2.2.2.2.2.1
  have hbA := C.2.2.2.2.2.2.2.2.2.2
  obtain ⟨r, w1, w2, e1, e2, hr2⟩ := q_told hr (xs (nI (i + 1)).toNatClampNeg)
  refine lv_aload_n C.1 C.2.1 dL_law_205 rfl (lv_at hl 1 rfl) ?_
  refine lv_aload_n C.1 C.2.1 dL_law_206 rfl (lv_at hl 0 rfl) ?_
  refine lv_iload_n C.1 C.2.1 dL_law_207 rfl (lv_at hl 3 rfl) ?_
  refine lv_iconst (v := nI 1) C.1 C.2.1 dL_law_208 (by decide) ?_
  refine lv_iadd C.1 C.2.1 dL_law_209 ?_
  rw [nI_add]
  refine va_sld C.1 C.2.1 hX hbl hbA hS (nI_in (show i + 1 < L by omega) (by omega)) dL_law_210 ?_
  refine lw_callV C (as := [vI (xs (nI (i + 1)).toNatClampNeg)]) (rest := []) mvL7_told mlL7_told (d := 26) ⟨rfl, by decide +kernel⟩ (s7_told (xs (nI (i + 1)).toNatClampNeg) _ _ _ e1) rfl (Nat.le_of_ble_eq_true rfl) (Nat.le_of_ble_eq_true rfl) (Nat.le_of_ble_eq_true rfl) rfl dL_law_211 hl.1 hP hS (fun H locs hP hS => ?_) hc hsl
  refine lv_aload_n C.1 C.2.1 dL_law_214 rfl (lv_at hl 2 rfl) ?_
  refine lv_aload_n C.1 C.2.1 dL_law_215 rfl (lv_at hl 0 rfl) ?_
  refine lv_iload_n C.1 C.2.1 dL_law_216 rfl (lv_at hl 3 rfl) ?_
  refine lv_iconst (v := nI 1) C.1 C.2.1 dL_law_217 (by decide) ?_
  refine lv_iadd C.1 C.2.1 dL_law_218 ?_
  rw [nI_add]
  refine va_sld C.1 C.2.1 hX hbl hbA hS (nI_in (show i + 1 < L by omega) (by omega)) dL_law_219 ?_
  refine lw_callV C (as := [vI (xs (nI (i + 1)).toNatClampNeg)]) (rest := [.int r]) mvL8_told mlL8_told (d := 32) ⟨rfl, by decide +kernel⟩ (s8_told (xs (nI (i + 1)).toNatClampNeg) _ _ _ e2) rfl (Nat.le_of_ble_eq_true rfl) (Nat.le_of_ble_eq_true rfl) (Nat.le_of_ble_eq_true rfl) rfl dL_law_220 hl.1 hP hS (fun H locs hP hS => ?_) hc hsl
  refine lv_icmp_eq (tgt := 807) C.1 C.2.1 dL_law_223 (by decide) (fun _ => ?_) (fun z => absurd rfl z)
  exact kk w2 H locs hr2 hP hS
theorem lk_village (C : LC p s m c b L xs D cy ad A) {i j : Nat} {w : Mem} (hi : i + 2 < L) (hL : L ≤ 192) (hn : j < 100) (hr : Rel j w) (hP : va_P D vwCl (wld cy ad w) H) (hS : va_S A s.heap H locs) (hl : lv_has ls 4 [(0, .ref b), (1, .ref (ad (26, 0))), (2, .ref (ad (32, 0))), (3, .int (nI i))]) (hc : cells ≤ 600000) (hsl : slots ≤ 7302250)
    (kk : ∀ (w' : Mem) (H : Heap) (locs : List Loc), Rel (j + 1) w' → va_P D vwCl (wld cy ad w') H → va_S A s.heap H locs → W p l e room_1 s m #[Value.ref b] below meth c H locs cells slots Q (F0 m 807 ls [])) : W p l e room_1 s m #[Value.ref b] below meth c H locs cells slots Q (F0 m 228 ls []) := by
  have hX := C.2.2.2.2.2.2.2.2.1
  have hbl := C.2.2.2.2.2.2.2.2.2.1
  have hbA := C.2.2.2.2.2.2.2.2.2.2
  obtain ⟨r, w1, w2, e1, e2, hr2⟩ := q_village hr (xs (nI (i + 1)).toNatClampNeg) (xs (nI (i + 2)).toNatClampNeg)
  refine lv_aload_n C.1 C.2.1 dL_law_228 rfl (lv_at hl 1 rfl) ?_
  refine lv_aload_n C.1 C.2.1 dL_law_229 rfl (lv_at hl 0 rfl) ?_
  refine lv_iload_n C.1 C.2.1 dL_law_230 rfl (lv_at hl 3 rfl) ?_
  refine lv_iconst (v := nI 1) C.1 C.2.1 dL_law_231 (by decide) ?_
  refine lv_iadd C.1 C.2.1 dL_law_232 ?_
  rw [nI_add]
  refine va_sld C.1 C.2.1 hX hbl hbA hS (nI_in (show i + 1 < L by omega) (by omega)) dL_law_233 ?_
  refine lv_aload_n C.1 C.2.1 dL_law_234 rfl (lv_at hl 0 rfl) ?_
  refine lv_iload_n C.1 C.2.1 dL_law_235 rfl (lv_at hl 3 rfl) ?_
  refine lv_iconst (v := nI 2) C.1 C.2.1 dL_law_236 (by decide) ?_
  refine lv_iadd C.1 C.2.1 dL_law_237 ?_
  rw [nI_add]
  refine va_sld C.1 C.2.1 hX hbl hbA hS (nI_in (show i + 2 < L by omega) (by omega)) dL_law_238 ?_
  refine lw_callV C (as := [vI (xs (nI (i + 1)).toNatClampNeg), vI (xs (nI (i + 2)).toNatClampNeg)]) (rest := []) mvL7_village mlL7_village (d := 26) ⟨rfl, by decide +kernel⟩ (s7_village (xs (nI (i + 1)).toNatClampNeg) (xs (nI (i + 2)).toNatClampNeg) _ _ _ e1) rfl (Nat.le_of_ble_eq_true rfl) (Nat.le_of_ble_eq_true rfl) (Nat.le_of_ble_eq_true rfl) rfl dL_law_239 hl.1 hP hS (fun H locs hP hS => ?_) hc hsl
  refine lv_aload_n C.1 C.2.1 dL_law_242 rfl (lv_at hl 2 rfl) ?_
  refine lv_aload_n C.1 C.2.1 dL_law_243 rfl (lv_at hl 0 rfl) ?_
  refine lv_iload_n C.1 C.2.1 dL_law_244 rfl (lv_at hl 3 rfl) ?_
  refine lv_iconst (v := nI 1) C.1 C.2.1 dL_law_245 (by decide) ?_
  refine lv_iadd C.1 C.2.1 dL_law_246 ?_
  rw [nI_add]
  refine va_sld C.1 C.2.1 hX hbl hbA hS (nI_in (show i + 1 < L by omega) (by omega)) dL_law_247 ?_
  refine lv_aload_n C.1 C.2.1 dL_law_248 rfl (lv_at hl 0 rfl) ?_
  refine lv_iload_n C.1 C.2.1 dL_law_249 rfl (lv_at hl 3 rfl) ?_
  refine lv_iconst (v := nI 2) C.1 C.2.1 dL_law_250 (by decide) ?_
  refine lv_iadd C.1 C.2.1 dL_law_251 ?_
  rw [nI_add]
  refine va_sld C.1 C.2.1 hX hbl hbA hS (nI_in (show i + 2 < L by omega) (by omega)) dL_law_252 ?_
  refine lw_callV C (as := [vI (xs (nI (i + 1)).toNatClampNeg), vI (xs (nI (i + 2)).toNatClampNeg)]) (rest := [.int r]) mvL8_village mlL8_village (d := 32) ⟨rfl, by decide +kernel⟩ (s8_village (xs (nI (i + 1)).toNatClampNeg) (xs (nI (i + 2)).toNatClampNeg) _ _ _ e2) rfl (Nat.le_of_ble_eq_true rfl) (Nat.le_of_ble_eq_true rfl) (Nat.le_of_ble_eq_true rfl) rfl dL_law_253 hl.1 hP hS (fun H locs hP hS => ?_) hc hsl
  refine lv_icmp_eq (tgt := 807) C.1 C.2.1 dL_law_256 (by decide) (fun _ => ?_) (fun z => absurd rfl z)
  exact kk w2 H locs hr2 hP hS
theorem lk_comes (C : LC p s m c b L xs D cy ad A) {i j : Nat} {w : Mem} (hi : i + 2 < L) (hL : L ≤ 192) (hn : j < 100) (hr : Rel j w) (hP : va_P D vwCl (wld cy ad w) H) (hS : va_S A s.heap H locs) (hl : lv_has ls 4 [(0, .ref b), (1, .ref (ad (26, 0))), (2, .ref (ad (32, 0))), (3, .int (nI i))]) (hc : cells ≤ 600000) (hsl : slots ≤ 7302250)
    (kk : ∀ (w' : Mem) (H : Heap) (locs : List Loc), Rel (j + 1) w' → va_P D vwCl (wld cy ad w') H → va_S A s.heap H locs → W p l e room_1 s m #[Value.ref b] below meth c H locs cells slots Q (F0 m 807 ls [])) : W p l e room_1 s m #[Value.ref b] below meth c H locs cells slots Q (F0 m 261 ls []) := by
  have hX := C.2.2.2.2.2.2.2.2.1
  have hbl := C.2.2.2.2.2.2.2.2.2.1
  have hbA := C.2.2.2.2.2.2.2.2.2.2
  obtain ⟨r, w1, w2, e1, e2, hr2⟩ := q_comes hn hr (xs (nI (i + 1)).toNatClampNeg)
  refine lv_aload_n C.1 C.2.1 dL_law_261 rfl (lv_at hl 1 rfl) ?_
  refine lv_aload_n C.1 C.2.1 dL_law_262 rfl (lv_at hl 0 rfl) ?_
  refine lv_iload_n C.1 C.2.1 dL_law_263 rfl (lv_at hl 3 rfl) ?_
  refine lv_iconst (v := nI 1) C.1 C.2.1 dL_law_264 (by decide) ?_
  refine lv_iadd C.1 C.2.1 dL_law_265 ?_
  rw [nI_add]
  refine va_sld C.1 C.2.1 hX hbl hbA hS (nI_in (show i + 1 < L by omega) (by omega)) dL_law_266 ?_
  refine lw_callV C (as := [vI (xs (nI (i + 1)).toNatClampNeg)]) (rest := []) mvL7_comes mlL7_comes (d := 26) ⟨rfl, by decide +kernel⟩ (s7_comes (xs (nI (i + 1)).toNatClampNeg) _ _ _ e1) rfl (Nat.le_of_ble_eq_true rfl) (Nat.le_of_ble_eq_true rfl) (Nat.le_of_ble_eq_true rfl) rfl dL_law_267 hl.1 hP hS (fun H locs hP hS => ?_) hc hsl
  refine lv_aload_n C.1 C.2.1 dL_law_270 rfl (lv_at hl 2 rfl) ?_
  refine lv_aload_n C.1 C.2.1 dL_law_271 rfl (lv_at hl 0 rfl) ?_
  refine lv_iload_n C.1 C.2.1 dL_law_272 rfl (lv_at hl 3 rfl) ?_
  refine lv_iconst (v := nI 1) C.1 C.2.1 dL_law_273 (by decide) ?_
  refine lv_iadd C.1 C.2.1 dL_law_274 ?_
  rw [nI_add]
  refine va_sld C.1 C.2.1 hX hbl hbA hS (nI_in (show i + 1 < L by omega) (by omega)) dL_law_275 ?_
  refine lw_callV C (as := [vI (xs (nI (i + 1)).toNatClampNeg)]) (rest := [.int r]) mvL8_comes mlL8_comes (d := 32) ⟨rfl, by decide +kernel⟩ (s8_comes (xs (nI (i + 1)).toNatClampNeg) _ _ _ e2) rfl (Nat.le_of_ble_eq_true rfl) (Nat.le_of_ble_eq_true rfl) (Nat.le_of_ble_eq_true rfl) rfl dL_law_276 hl.1 hP hS (fun H locs hP hS => ?_) hc hsl
  refine lv_icmp_eq (tgt := 807) C.1 C.2.1 dL_law_279 (by decide) (fun _ => ?_) (fun z => absurd rfl z)
  exact kk w2 H locs hr2 hP hS
theorem lk_blessed (C : LC p s m c b L xs D cy ad A) {i j : Nat} {w : Mem} (hi : i + 2 < L) (hL : L ≤ 192) (hn : j < 100) (hr : Rel j w) (hP : va_P D vwCl (wld cy ad w) H) (hS : va_S A s.heap H locs) (hl : lv_has ls 4 [(0, .ref b), (1, .ref (ad (26, 0))), (2, .ref (ad (32, 0))), (3, .int (nI i))]) (hc : cells ≤ 600000) (hsl : slots ≤ 7302250)
    (kk : ∀ (w' : Mem) (H : Heap) (locs : List Loc), Rel (j + 1) w' → va_P D vwCl (wld cy ad w') H → va_S A s.heap H locs → W p l e room_1 s m #[Value.ref b] below meth c H locs cells slots Q (F0 m 807 ls [])) : W p l e room_1 s m #[Value.ref b] below meth c H locs cells slots Q (F0 m 284 ls []) := by
  have hX := C.2.2.2.2.2.2.2.2.1
  have hbl := C.2.2.2.2.2.2.2.2.2.1
  have hbA := C.2.2.2.2.2.2.2.2.2.2
  obtain ⟨r, w1, w2, e1, e2, hr2⟩ := q_blessed hn hr (xs (nI (i + 1)).toNatClampNeg)
  refine lv_aload_n C.1 C.2.1 dL_law_284 rfl (lv_at hl 1 rfl) ?_
  refine lv_aload_n C.1 C.2.1 dL_law_285 rfl (lv_at hl 0 rfl) ?_
  refine lv_iload_n C.1 C.2.1 dL_law_286 rfl (lv_at hl 3 rfl) ?_
  refine lv_iconst (v := nI 1) C.1 C.2.1 dL_law_287 (by decide) ?_
  refine lv_iadd C.1 C.2.1 dL_law_288 ?_
  rw [nI_add]
  refine va_sld C.1 C.2.1 hX hbl hbA hS (nI_in (show i + 1 < L by omega) (by omega)) dL_law_289 ?_
  refine lw_callV C (as := [vI (xs (nI (i + 1)).toNatClampNeg)]) (rest := []) mvL7_blessed mlL7_blessed (d := 26) ⟨rfl, by decide +kernel⟩ (s7_blessed (xs (nI (i + 1)).toNatClampNeg) _ _ _ e1) rfl (Nat.le_of_ble_eq_true rfl) (Nat.le_of_ble_eq_true rfl) (Nat.le_of_ble_eq_true rfl) rfl dL_law_290 hl.1 hP hS (fun H locs hP hS => ?_) hc hsl
  refine lv_aload_n C.1 C.2.1 dL_law_293 rfl (lv_at hl 2 rfl) ?_
  refine lv_aload_n C.1 C.2.1 dL_law_294 rfl (lv_at hl 0 rfl) ?_
  refine lv_iload_n C.1 C.2.1 dL_law_295 rfl (lv_at hl 3 rfl) ?_
  refine lv_iconst (v := nI 1) C.1 C.2.1 dL_law_296 (by decide) ?_
  refine lv_iadd C.1 C.2.1 dL_law_297 ?_
  rw [nI_add]
  refine va_sld C.1 C.2.1 hX hbl hbA hS (nI_in (show i + 1 < L by omega) (by omega)) dL_law_298 ?_
  refine lw_callV C (as := [vI (xs (nI (i + 1)).toNatClampNeg)]) (rest := [.int r]) mvL8_blessed mlL8_blessed (d := 32) ⟨rfl, by decide +kernel⟩ (s8_blessed (xs (nI (i + 1)).toNatClampNeg) _ _ _ e2) rfl (Nat.le_of_ble_eq_true rfl) (Nat.le_of_ble_eq_true rfl) (Nat.le_of_ble_eq_true rfl) rfl dL_law_299 hl.1 hP hS (fun H locs hP hS => ?_) hc hsl
  refine lv_icmp_eq (tgt := 807) C.1 C.2.1 dL_law_302 (by decide) (fun _ => ?_) (fun z => absurd rfl z)
  exact kk w2 H locs hr2 hP hS
theorem lk_day (C : LC p s m c b L xs D cy ad A) {i j : Nat} {w : Mem} (hi : i + 2 < L) (hL : L ≤ 192) (hn : j < 100) (hr : Rel j w) (hP : va_P D vwCl (wld cy ad w) H) (hS : va_S A s.heap H locs) (hl : lv_has ls 4 [(0, .ref b), (1, .ref (ad (26, 0))), (2, .ref (ad (32, 0))), (3, .int (nI i))]) (hc : cells ≤ 600000) (hsl : slots ≤ 7302250)
    (kk : ∀ (w' : Mem) (H : Heap) (locs : List Loc), Rel (j + 1) w' → va_P D vwCl (wld cy ad w') H → va_S A s.heap H locs → W p l e room_1 s m #[Value.ref b] below meth c H locs cells slots Q (F0 m 807 ls [])) : W p l e room_1 s m #[Value.ref b] below meth c H locs cells slots Q (F0 m 307 ls []) := by
  have hX := C.2.2.2.2.2.2.2.2.1
  have hbl := C.2.2.2.2.2.2.2.2.2.1
  have hbA := C.2.2.2.2.2.2.2.2.2.2
  obtain ⟨r, w1, w2, e1, e2, hr2⟩ := q_day hn hr (xs (nI (i + 1)).toNatClampNeg)
  refine lv_aload_n C.1 C.2.1 dL_law_307 rfl (lv_at hl 1 rfl) ?_
  refine lv_aload_n C.1 C.2.1 dL_law_308 rfl (lv_at hl 0 rfl) ?_
  refine lv_iload_n C.1 C.2.1 dL_law_309 rfl (lv_at hl 3 rfl) ?_
  refine lv_iconst (v := nI 1) C.1 C.2.1 dL_law_310 (by decide) ?_
  refine lv_iadd C.1 C.2.1 dL_law_311 ?_
  rw [nI_add]
  refine va_sld C.1 C.2.1 hX hbl hbA hS (nI_in (show i + 1 < L by omega) (by omega)) dL_law_312 ?_
  refine lw_callV C (as := [vI (xs (nI (i + 1)).toNatClampNeg)]) (rest := []) mvL7_day mlL7_day (d := 26) ⟨rfl, by decide +kernel⟩ (s7_day (xs (nI (i + 1)).toNatClampNeg) _ _ _ e1) rfl (Nat.le_of_ble_eq_true rfl) (Nat.le_of_ble_eq_true rfl) (Nat.le_of_ble_eq_true rfl) rfl dL_law_313 hl.1 hP hS (fun H locs hP hS => ?_) hc hsl
  refine lv_aload_n C.1 C.2.1 dL_law_316 rfl (lv_at hl 2 rfl) ?_
  refine lv_aload_n C.1 C.2.1 dL_law_317 rfl (lv_at hl 0 rfl) ?_
  refine lv_iload_n C.1 C.2.1 dL_law_318 rfl (lv_at hl 3 rfl) ?_
  refine lv_iconst (v := nI 1) C.1 C.2.1 dL_law_319 (by decide) ?_
  refine lv_iadd C.1 C.2.1 dL_law_320 ?_
  rw [nI_add]
  refine va_sld C.1 C.2.1 hX hbl hbA hS (nI_in (show i + 1 < L by omega) (by omega)) dL_law_321 ?_
  refine lw_callV C (as := [vI (xs (nI (i + 1)).toNatClampNeg)]) (rest := [.int r]) mvL8_day mlL8_day (d := 32) ⟨rfl, by decide +kernel⟩ (s8_day (xs (nI (i + 1)).toNatClampNeg) _ _ _ e2) rfl (Nat.le_of_ble_eq_true rfl) (Nat.le_of_ble_eq_true rfl) (Nat.le_of_ble_eq_true rfl) rfl dL_law_322 hl.1 hP hS (fun H locs hP hS => ?_) hc hsl
  refine lv_icmp_eq (tgt := 807) C.1 C.2.1 dL_law_325 (by decide) (fun _ => ?_) (fun z => absurd rfl z)
  exact kk w2 H locs hr2 hP hS
theorem lk_calendar (C : LC p s m c b L xs D cy ad A) {i j : Nat} {w : Mem} (hi : i + 2 < L) (hL : L ≤ 192) (hn : j < 100) (hr : Rel j w) (hP : va_P D vwCl (wld cy ad w) H) (hS : va_S A s.heap H locs) (hl : lv_has ls 4 [(0, .ref b), (1, .ref (ad (26, 0))), (2, .ref (ad (32, 0))), (3, .int (nI i))]) (hc : cells ≤ 600000) (hsl : slots ≤ 7302250)
    (kk : ∀ (w' : Mem) (H : Heap) (locs : List Loc), Rel (j + 1) w' → va_P D vwCl (wld cy ad w') H → va_S A s.heap H locs → W p l e room_1 s m #[Value.ref b] below meth c H locs cells slots Q (F0 m 807 ls [])) : W p l e room_1 s m #[Value.ref b] below meth c H locs cells slots Q (F0 m 330 ls []) := by
  have hX := C.2.2.2.2.2.2.2.2.1
  have hbl := C.2.2.2.2.2.2.2.2.2.1
  have hbA := C.2.2.2.2.2.2.2.2.2.2
  obtain ⟨r, w1, w2, e1, e2, hr2⟩ := q_calendar hn hr (xs (nI (i + 1)).toNatClampNeg) (xs (nI (i + 2)).toNatClampNeg)
  refine lv_aload_n C.1 C.2.1 dL_law_330 rfl (lv_at hl 1 rfl) ?_
  refine lv_aload_n C.1 C.2.1 dL_law_331 rfl (lv_at hl 0 rfl) ?_
  refine lv_iload_n C.1 C.2.1 dL_law_332 rfl (lv_at hl 3 rfl) ?_
  refine lv_iconst (v := nI 1) C.1 C.2.1 dL_law_333 (by decide) ?_
  refine lv_iadd C.1 C.2.1 dL_law_334 ?_
  rw [nI_add]
  refine va_sld C.1 C.2.1 hX hbl hbA hS (nI_in (show i + 1 < L by omega) (by omega)) dL_law_335 ?_
  refine lv_aload_n C.1 C.2.1 dL_law_336 rfl (lv_at hl 0 rfl) ?_
  refine lv_iload_n C.1 C.2.1 dL_law_337 rfl (lv_at hl 3 rfl) ?_
  refine lv_iconst (v := nI 2) C.1 C.2.1 dL_law_338 (by decide) ?_
  refine lv_iadd C.1 C.2.1 dL_law_339 ?_
  rw [nI_add]
  refine va_sld C.1 C.2.1 hX hbl hbA hS (nI_in (show i + 2 < L by omega) (by omega)) dL_law_340 ?_
  refine lw_callV C (as := [vI (xs (nI (i + 1)).toNatClampNeg), vI (xs (nI (i + 2)).toNatClampNeg)]) (rest := []) mvL7_calendar mlL7_calendar (d := 26) ⟨rfl, by decide +kernel⟩ (s7_calendar (xs (nI (i + 1)).toNatClampNeg) (xs (nI (i + 2)).toNatClampNeg) _ _ _ e1) rfl (Nat.le_of_ble_eq_true rfl) (Nat.le_of_ble_eq_true rfl) (Nat.le_of_ble_eq_true rfl) rfl dL_law_341 hl.1 hP hS (fun H locs hP hS => ?_) hc hsl
  refine lv_aload_n C.1 C.2.1 dL_law_344 rfl (lv_at hl 2 rfl) ?_
  refine lv_aload_n C.1 C.2.1 dL_law_345 rfl (lv_at hl 0 rfl) ?_
  refine lv_iload_n C.1 C.2.1 dL_law_346 rfl (lv_at hl 3 rfl) ?_
  refine lv_iconst (v := nI 1) C.1 C.2.1 dL_law_347 (by decide) ?_
  refine lv_iadd C.1 C.2.1 dL_law_348 ?_
  rw [nI_add]
  refine va_sld C.1 C.2.1 hX hbl hbA hS (nI_in (show i + 1 < L by omega) (by omega)) dL_law_349 ?_
  refine lv_aload_n C.1 C.2.1 dL_law_350 rfl (lv_at hl 0 rfl) ?_
  refine lv_iload_n C.1 C.2.1 dL_law_351 rfl (lv_at hl 3 rfl) ?_
  refine lv_iconst (v := nI 2) C.1 C.2.1 dL_law_352 (by decide) ?_
  refine lv_iadd C.1 C.2.1 dL_law_353 ?_
  rw [nI_add]
  refine va_sld C.1 C.2.1 hX hbl hbA hS (nI_in (show i + 2 < L by omega) (by omega)) dL_law_354 ?_
  refine lw_callV C (as := [vI (xs (nI (i + 1)).toNatClampNeg), vI (xs (nI (i + 2)).toNatClampNeg)]) (rest := [.int r]) mvL8_calendar mlL8_calendar (d := 32) ⟨rfl, by decide +kernel⟩ (s8_calendar (xs (nI (i + 1)).toNatClampNeg) (xs (nI (i + 2)).toNatClampNeg) _ _ _ e2) rfl (Nat.le_of_ble_eq_true rfl) (Nat.le_of_ble_eq_true rfl) (Nat.le_of_ble_eq_true rfl) rfl dL_law_355 hl.1 hP hS (fun H locs hP hS => ?_) hc hsl
  refine lv_icmp_eq (tgt := 807) C.1 C.2.1 dL_law_358 (by decide) (fun _ => ?_) (fun z => absurd rfl z)
  exact kk w2 H locs hr2 hP hS
theorem lk_drift (C : LC p s m c b L xs D cy ad A) {i j : Nat} {w : Mem} (hi : i + 2 < L) (hL : L ≤ 192) (hn : j < 100) (hr : Rel j w) (hP : va_P D vwCl (wld cy ad w) H) (hS : va_S A s.heap H locs) (hl : lv_has ls 4 [(0, .ref b), (1, .ref (ad (26, 0))), (2, .ref (ad (32, 0))), (3, .int (nI i))]) (hc : cells ≤ 600000) (hsl : slots ≤ 7302250)
    (kk : ∀ (w' : Mem) (H : Heap) (locs : List Loc), Rel (j + 1) w' → va_P D vwCl (wld cy ad w') H → va_S A s.heap H locs → W p l e room_1 s m #[Value.ref b] below meth c H locs cells slots Q (F0 m 807 ls [])) : W p l e room_1 s m #[Value.ref b] below meth c H locs cells slots Q (F0 m 363 ls []) := by
  have hX := C.2.2.2.2.2.2.2.2.1
  have hbl := C.2.2.2.2.2.2.2.2.2.1
  have hbA := C.2.2.2.2.2.2.2.2.2.2
  obtain ⟨r, w1, w2, e1, e2, hr2⟩ := q_drift hn hr (xs (nI (i + 1)).toNatClampNeg)
  refine lv_aload_n C.1 C.2.1 dL_law_363 rfl (lv_at hl 1 rfl) ?_
  refine lv_aload_n C.1 C.2.1 dL_law_364 rfl (lv_at hl 0 rfl) ?_
  refine lv_iload_n C.1 C.2.1 dL_law_365 rfl (lv_at hl 3 rfl) ?_
  refine lv_iconst (v := nI 1) C.1 C.2.1 dL_law_366 (by decide) ?_
  refine lv_iadd C.1 C.2.1 dL_law_367 ?_
  rw [nI_add]
  refine va_sld C.1 C.2.1 hX hbl hbA hS (nI_in (show i + 1 < L by omega) (by omega)) dL_law_368 ?_
  refine lw_callV C (as := [vI (xs (nI (i + 1)).toNatClampNeg)]) (rest := []) mvL7_drift mlL7_drift (d := 26) ⟨rfl, by decide +kernel⟩ (s7_drift (xs (nI (i + 1)).toNatClampNeg) _ _ _ e1) rfl (Nat.le_of_ble_eq_true rfl) (Nat.le_of_ble_eq_true rfl) (Nat.le_of_ble_eq_true rfl) rfl dL_law_369 hl.1 hP hS (fun H locs hP hS => ?_) hc hsl
  refine lv_aload_n C.1 C.2.1 dL_law_372 rfl (lv_at hl 2 rfl) ?_
  refine lv_aload_n C.1 C.2.1 dL_law_373 rfl (lv_at hl 0 rfl) ?_
  refine lv_iload_n C.1 C.2.1 dL_law_374 rfl (lv_at hl 3 rfl) ?_
  refine lv_iconst (v := nI 1) C.1 C.2.1 dL_law_375 (by decide) ?_
  refine lv_iadd C.1 C.2.1 dL_law_376 ?_
  rw [nI_add]
  refine va_sld C.1 C.2.1 hX hbl hbA hS (nI_in (show i + 1 < L by omega) (by omega)) dL_law_377 ?_
  refine lw_callV C (as := [vI (xs (nI (i + 1)).toNatClampNeg)]) (rest := [.int r]) mvL8_drift mlL8_drift (d := 32) ⟨rfl, by decide +kernel⟩ (s8_drift (xs (nI (i + 1)).toNatClampNeg) _ _ _ e2) rfl (Nat.le_of_ble_eq_true rfl) (Nat.le_of_ble_eq_true rfl) (Nat.le_of_ble_eq_true rfl) rfl dL_law_378 hl.1 hP hS (fun H locs hP hS => ?_) hc hsl
  refine lv_icmp_eq (tgt := 807) C.1 C.2.1 dL_law_381 (by decide) (fun _ => ?_) (fun z => absurd rfl z)
  exact kk w2 H locs hr2 hP hS
theorem lk_undo (C : LC p s m c b L xs D cy ad A) {i j : Nat} {w : Mem} (hi : i + 2 < L) (hL : L ≤ 192) (hn : j < 100) (hr : Rel j w) (hP : va_P D vwCl (wld cy ad w) H) (hS : va_S A s.heap H locs) (hl : lv_has ls 4 [(0, .ref b), (1, .ref (ad (26, 0))), (2, .ref (ad (32, 0))), (3, .int (nI i))]) (hc : cells ≤ 600000) (hsl : slots ≤ 7302250)
    (kk : ∀ (w' : Mem) (H : Heap) (locs : List Loc), Rel (j + 1) w' → va_P D vwCl (wld cy ad w') H → va_S A s.heap H locs → W p l e room_1 s m #[Value.ref b] below meth c H locs cells slots Q (F0 m 807 ls [])) : W p l e room_1 s m #[Value.ref b] below meth c H locs cells slots Q (F0 m 386 ls []) := by
  have hX := C.2.2.2.2.2.2.2.2.1
  have hbl := C.2.2.2.2.2.2.2.2.2.1
  have hbA := C.2.2.2.2.2.2.2.2.2.2
  obtain ⟨r, w1, w2, e1, e2, hr2⟩ := q_undo hn hr 
  refine lv_aload_n C.1 C.2.1 dL_law_386 rfl (lv_at hl 1 rfl) ?_
  refine lw_callV C (as := []) (rest := []) mvL7_undo mlL7_undo (d := 26) ⟨rfl, by decide +kernel⟩ (s7_undo  _ _ _ e1) rfl (Nat.le_of_ble_eq_true rfl) (Nat.le_of_ble_eq_true rfl) (Nat.le_of_ble_eq_true rfl) rfl dL_law_387 hl.1 hP hS (fun H locs hP hS => ?_) hc hsl
  refine lv_aload_n C.1 C.2.1 dL_law_390 rfl (lv_at hl 2 rfl) ?_
  refine lw_callV C (as := []) (rest := [.int r]) mvL8_undo mlL8_undo (d := 32) ⟨rfl, by decide +kernel⟩ (s8_undo  _ _ _ e2) rfl (Nat.le_of_ble_eq_true rfl) (Nat.le_of_ble_eq_true rfl) (Nat.le_of_ble_eq_true rfl) rfl dL_law_391 hl.1 hP hS (fun H locs hP hS => ?_) hc hsl
  refine lv_icmp_eq (tgt := 807) C.1 C.2.1 dL_law_394 (by decide) (fun _ => ?_) (fun z => absurd rfl z)
  exact kk w2 H locs hr2 hP hS
theorem lk_whenDown (C : LC p s m c b L xs D cy ad A) {i j : Nat} {w : Mem} (hi : i + 2 < L) (hL : L ≤ 192) (hn : j < 100) (hr : Rel j w) (hP : va_P D vwCl (wld cy ad w) H) (hS : va_S A s.heap H locs) (hl : lv_has ls 4 [(0, .ref b), (1, .ref (ad (26, 0))), (2, .ref (ad (32, 0))), (3, .int (nI i))]) (hc : cells ≤ 600000) (hsl : slots ≤ 7302250)
    (kk : ∀ (w' : Mem) (H : Heap) (locs : List Loc), Rel (j + 1) w' → va_P D vwCl (wld cy ad w') H → va_S A s.heap H locs → W p l e room_1 s m #[Value.ref b] below meth c H locs cells slots Q (F0 m 807 ls [])) : W p l e room_1 s m #[Value.ref b] below meth c H locs cells slots Q (F0 m 399 ls []) := by
  have hX := C.2.2.2.2.2.2.2.2.1
  have hbl := C.2.2.2.2.2.2.2.2.2.1
  have hbA := C.2.2.2.2.2.2.2.2.2.2
  obtain ⟨r, w1, w2, e1, e2, hr2⟩ := q_whenDown hn hr 
  refine lv_aload_n C.1 C.2.1 dL_law_399 rfl (lv_at hl 1 rfl) ?_
  refine lw_callV C (as := []) (rest := []) mvL7_whenDown mlL7_whenDown (d := 26) ⟨rfl, by decide +kernel⟩ (s7_whenDown  _ _ _ e1) rfl (Nat.le_of_ble_eq_true rfl) (Nat.le_of_ble_eq_true rfl) (Nat.le_of_ble_eq_true rfl) rfl dL_law_400 hl.1 hP hS (fun H locs hP hS => ?_) hc hsl
  refine lv_aload_n C.1 C.2.1 dL_law_403 rfl (lv_at hl 2 rfl) ?_
  refine lw_callV C (as := []) (rest := [.int r]) mvL8_whenDown mlL8_whenDown (d := 32) ⟨rfl, by decide +kernel⟩ (s8_whenDown  _ _ _ e2) rfl (Nat.le_of_ble_eq_true rfl) (Nat.le_of_ble_eq_true rfl) (Nat.le_of_ble_eq_true rfl) rfl dL_law_404 hl.1 hP hS (fun H locs hP hS => ?_) hc hsl
  refine lv_icmp_eq (tgt := 807) C.1 C.2.1 dL_law_407 (by decide) (fun _ => ?_) (fun z => absurd rfl z)
  exact kk w2 H locs hr2 hP hS
theorem lk_ahead (C : LC p s m c b L xs D cy ad A) {i j : Nat} {w : Mem} (hi : i + 2 < L) (hL : L ≤ 192) (hn : j < 100) (hr : Rel j w) (hP : va_P D vwCl (wld cy ad w) H) (hS : va_S A s.heap H locs) (hl : lv_has ls 4 [(0, .ref b), (1, .ref (ad (26, 0))), (2, .ref (ad (32, 0))), (3, .int (nI i))]) (hc : cells ≤ 600000) (hsl : slots ≤ 7302250)
    (kk : ∀ (w' : Mem) (H : Heap) (locs : List Loc), Rel (j + 1) w' → va_P D vwCl (wld cy ad w') H → va_S A s.heap H locs → W p l e room_1 s m #[Value.ref b] below meth c H locs cells slots Q (F0 m 807 ls [])) : W p l e room_1 s m #[Value.ref b] below meth c H locs cells slots Q (F0 m 412 ls []) := by
  have hX := C.2.2.2.2.2.2.2.2.1
  have hbl := C.2.2.2.2.2.2.2.2.2.1
  have hbA := C.2.2.2.2.2.2.2.2.2.2
  obtain ⟨r, w1, w2, e1, e2, hr2⟩ := q_ahead hn hr (xs (nI (i + 1)).toNatClampNeg) (xs (nI (i + 2)).toNatClampNeg)
  refine lv_aload_n C.1 C.2.1 dL_law_412 rfl (lv_at hl 1 rfl) ?_
  refine lv_aload_n C.1 C.2.1 dL_law_413 rfl (lv_at hl 0 rfl) ?_
  refine lv_iload_n C.1 C.2.1 dL_law_414 rfl (lv_at hl 3 rfl) ?_
  refine lv_iconst (v := nI 1) C.1 C.2.1 dL_law_415 (by decide) ?_
  refine lv_iadd C.1 C.2.1 dL_law_416 ?_
  rw [nI_add]
  refine va_sld C.1 C.2.1 hX hbl hbA hS (nI_in (show i + 1 < L by omega) (by omega)) dL_law_417 ?_
  refine lv_aload_n C.1 C.2.1 dL_law_418 rfl (lv_at hl 0 rfl) ?_
  refine lv_iload_n C.1 C.2.1 dL_law_419 rfl (lv_at hl 3 rfl) ?_
  refine lv_iconst (v := nI 2) C.1 C.2.1 dL_law_420 (by decide) ?_
  refine lv_iadd C.1 C.2.1 dL_law_421 ?_
  rw [nI_add]
  refine va_sld C.1 C.2.1 hX hbl hbA hS (nI_in (show i + 2 < L by omega) (by omega)) dL_law_422 ?_
  refine lw_callV C (as := [vI (xs (nI (i + 1)).toNatClampNeg), vI (xs (nI (i + 2)).toNatClampNeg)]) (rest := []) mvL7_ahead mlL7_ahead (d := 26) ⟨rfl, by decide +kernel⟩ (s7_ahead (xs (nI (i + 1)).toNatClampNeg) (xs (nI (i + 2)).toNatClampNeg) _ _ _ e1) rfl (Nat.le_of_ble_eq_true rfl) (Nat.le_of_ble_eq_true rfl) (Nat.le_of_ble_eq_true rfl) rfl dL_law_423 hl.1 hP hS (fun H locs hP hS => ?_) hc hsl
  refine lv_aload_n C.1 C.2.1 dL_law_426 rfl (lv_at hl 2 rfl) ?_
  refine lv_aload_n C.1 C.2.1 dL_law_427 rfl (lv_at hl 0 rfl) ?_
  refine lv_iload_n C.1 C.2.1 dL_law_428 rfl (lv_at hl 3 rfl) ?_
  refine lv_iconst (v := nI 1) C.1 C.2.1 dL_law_429 (by decide) ?_
  refine lv_iadd C.1 C.2.1 dL_law_430 ?_
  rw [nI_add]
  refine va_sld C.1 C.2.1 hX hbl hbA hS (nI_in (show i + 1 < L by omega) (by omega)) dL_law_431 ?_
  refine lv_aload_n C.1 C.2.1 dL_law_432 rfl (lv_at hl 0 rfl) ?_
  refine lv_iload_n C.1 C.2.1 dL_law_433 rfl (lv_at hl 3 rfl) ?_
  refine lv_iconst (v := nI 2) C.1 C.2.1 dL_law_434 (by decide) ?_
  refine lv_iadd C.1 C.2.1 dL_law_435 ?_
  rw [nI_add]
  refine va_sld C.1 C.2.1 hX hbl hbA hS (nI_in (show i + 2 < L by omega) (by omega)) dL_law_436 ?_
  refine lw_callV C (as := [vI (xs (nI (i + 1)).toNatClampNeg), vI (xs (nI (i + 2)).toNatClampNeg)]) (rest := [.int r]) mvL8_ahead mlL8_ahead (d := 32) ⟨rfl, by decide +kernel⟩ (s8_ahead (xs (nI (i + 1)).toNatClampNeg) (xs (nI (i + 2)).toNatClampNeg) _ _ _ e2) rfl (Nat.le_of_ble_eq_true rfl) (Nat.le_of_ble_eq_true rfl) (Nat.le_of_ble_eq_true rfl) rfl dL_law_437 hl.1 hP hS (fun H locs hP hS => ?_) hc hsl
  refine lv_icmp_eq (tgt := 807) C.1 C.2.1 dL_law_440 (by decide) (fun _ => ?_) (fun z => absurd rfl z)
  exact kk w2 H locs hr2 hP hS
theorem lk_certain (C : LC p s m c b L xs D cy ad A) {i j : Nat} {w : Mem} (hi : i + 2 < L) (hL : L ≤ 192) (hn : j < 100) (hr : Rel j w) (hP : va_P D vwCl (wld cy ad w) H) (hS : va_S A s.heap H locs) (hl : lv_has ls 4 [(0, .ref b), (1, .ref (ad (26, 0))), (2, .ref (ad (32, 0))), (3, .int (nI i))]) (hc : cells ≤ 600000) (hsl : slots ≤ 7302250)
    (kk : ∀ (w' : Mem) (H : Heap) (locs : List Loc), Rel (j + 1) w' → va_P D vwCl (wld cy ad w') H → va_S A s.heap H locs → W p l e room_1 s m #[Value.ref b] below meth c H locs cells slots Q (F0 m 807 ls [])) : W p l e room_1 s m #[Value.ref b] below meth c H locs cells slots Q (F0 m 445 ls []) := by
  have hX := C.2.2.2.2.2.2.2.2.1
  have hbl := C.2.2.2.2.2.2.2.2.2.1
  have hbA := C.2.2.2.2.2.2.2.2.2.2
  obtain ⟨r, w1, w2, e1, e2, hr2⟩ := q_certain hr (xs (nI (i + 1)).toNatClampNeg) (xs (nI (i + 2)).toNatClampNeg)
  refine lv_aload_n C.1 C.2.1 dL_law_445 rfl (lv_at hl 1 rfl) ?_
  refine lv_aload_n C.1 C.2.1 dL_law_446 rfl (lv_at hl 0 rfl) ?_
  refine lv_iload_n C.1 C.2.1 dL_law_447 rfl (lv_at hl 3 rfl) ?_
  refine lv_iconst (v := nI 1) C.1 C.2.1 dL_law_448 (by decide) ?_
  refine lv_iadd C.1 C.2.1 dL_law_449 ?_
  rw [nI_add]
  refine va_sld C.1 C.2.1 hX hbl hbA hS (nI_in (show i + 1 < L by omega) (by omega)) dL_law_450 ?_
  refine lv_aload_n C.1 C.2.1 dL_law_451 rfl (lv_at hl 0 rfl) ?_
  refine lv_iload_n C.1 C.2.1 dL_law_452 rfl (lv_at hl 3 rfl) ?_
  refine lv_iconst (v := nI 2) C.1 C.2.1 dL_law_453 (by decide) ?_
  refine lv_iadd C.1 C.2.1 dL_law_454 ?_
  rw [nI_add]
  refine va_sld C.1 C.2.1 hX hbl hbA hS (nI_in (show i + 2 < L by omega) (by omega)) dL_law_455 ?_
  refine lw_callV C (as := [vI (xs (nI (i + 1)).toNatClampNeg), vI (xs (nI (i + 2)).toNatClampNeg)]) (rest := []) mvL7_certain mlL7_certain (d := 26) ⟨rfl, by decide +kernel⟩ (s7_certain (xs (nI (i + 1)).toNatClampNeg) (xs (nI (i + 2)).toNatClampNeg) _ _ _ e1) rfl (Nat.le_of_ble_eq_true rfl) (Nat.le_of_ble_eq_true rfl) (Nat.le_of_ble_eq_true rfl) rfl dL_law_456 hl.1 hP hS (fun H locs hP hS => ?_) hc hsl
  refine lv_aload_n C.1 C.2.1 dL_law_459 rfl (lv_at hl 2 rfl) ?_
  refine lv_aload_n C.1 C.2.1 dL_law_460 rfl (lv_at hl 0 rfl) ?_
  refine lv_iload_n C.1 C.2.1 dL_law_461 rfl (lv_at hl 3 rfl) ?_
  refine lv_iconst (v := nI 1) C.1 C.2.1 dL_law_462 (by decide) ?_
  refine lv_iadd C.1 C.2.1 dL_law_463 ?_
  rw [nI_add]
  refine va_sld C.1 C.2.1 hX hbl hbA hS (nI_in (show i + 1 < L by omega) (by omega)) dL_law_464 ?_
  refine lv_aload_n C.1 C.2.1 dL_law_465 rfl (lv_at hl 0 rfl) ?_
  refine lv_iload_n C.1 C.2.1 dL_law_466 rfl (lv_at hl 3 rfl) ?_
  refine lv_iconst (v := nI 2) C.1 C.2.1 dL_law_467 (by decide) ?_
  refine lv_iadd C.1 C.2.1 dL_law_468 ?_
  rw [nI_add]
  refine va_sld C.1 C.2.1 hX hbl hbA hS (nI_in (show i + 2 < L by omega) (by omega)) dL_law_469 ?_
  refine lw_callV C (as := [vI (xs (nI (i + 1)).toNatClampNeg), vI (xs (nI (i + 2)).toNatClampNeg)]) (rest := [.int r]) mvL8_certain mlL8_certain (d := 32) ⟨rfl, by decide +kernel⟩ (s8_certain (xs (nI (i + 1)).toNatClampNeg) (xs (nI (i + 2)).toNatClampNeg) _ _ _ e2) rfl (Nat.le_of_ble_eq_true rfl) (Nat.le_of_ble_eq_true rfl) (Nat.le_of_ble_eq_true rfl) rfl dL_law_470 hl.1 hP hS (fun H locs hP hS => ?_) hc hsl
  refine lv_icmp_eq (tgt := 807) C.1 C.2.1 dL_law_473 (by decide) (fun _ => ?_) (fun z => absurd rfl z)
  exact kk w2 H locs hr2 hP hS
theorem lk_away (C : LC p s m c b L xs D cy ad A) {i j : Nat} {w : Mem} (hi : i + 2 < L) (hL : L ≤ 192) (hn : j < 100) (hr : Rel j w) (hP : va_P D vwCl (wld cy ad w) H) (hS : va_S A s.heap H locs) (hl : lv_has ls 4 [(0, .ref b), (1, .ref (ad (26, 0))), (2, .ref (ad (32, 0))), (3, .int (nI i))]) (hc : cells ≤ 600000) (hsl : slots ≤ 7302250)
    (kk : ∀ (w' : Mem) (H : Heap) (locs : List Loc), Rel (j + 1) w' → va_P D vwCl (wld cy ad w') H → va_S A s.heap H locs → W p l e room_1 s m #[Value.ref b] below meth c H locs cells slots Q (F0 m 807 ls [])) : W p l e room_1 s m #[Value.ref b] below meth c H locs cells slots Q (F0 m 478 ls []) := by
  have hX := C.2.2.2.2.2.2.2.2.1
  have hbl := C.2.2.2.2.2.2.2.2.2.1
  have hbA := C.2.2.2.2.2.2.2.2.2.2
  obtain ⟨r, w1, w2, e1, e2, hr2⟩ := q_away hn hr (xs (nI (i + 1)).toNatClampNeg)
  refine lv_aload_n C.1 C.2.1 dL_law_478 rfl (lv_at hl 1 rfl) ?_
  refine lv_aload_n C.1 C.2.1 dL_law_479 rfl (lv_at hl 0 rfl) ?_
  refine lv_iload_n C.1 C.2.1 dL_law_480 rfl (lv_at hl 3 rfl) ?_
  refine lv_iconst (v := nI 1) C.1 C.2.1 dL_law_481 (by decide) ?_
  refine lv_iadd C.1 C.2.1 dL_law_482 ?_
  rw [nI_add]
  refine va_sld C.1 C.2.1 hX hbl hbA hS (nI_in (show i + 1 < L by omega) (by omega)) dL_law_483 ?_
  refine lw_callV C (as := [vI (xs (nI (i + 1)).toNatClampNeg)]) (rest := []) mvL7_away mlL7_away (d := 26) ⟨rfl, by decide +kernel⟩ (s7_away (xs (nI (i + 1)).toNatClampNeg) _ _ _ e1) rfl (Nat.le_of_ble_eq_true rfl) (Nat.le_of_ble_eq_true rfl) (Nat.le_of_ble_eq_true rfl) rfl dL_law_484 hl.1 hP hS (fun H locs hP hS => ?_) hc hsl
  refine lv_aload_n C.1 C.2.1 dL_law_487 rfl (lv_at hl 2 rfl) ?_
  refine lv_aload_n C.1 C.2.1 dL_law_488 rfl (lv_at hl 0 rfl) ?_
  refine lv_iload_n C.1 C.2.1 dL_law_489 rfl (lv_at hl 3 rfl) ?_
  refine lv_iconst (v := nI 1) C.1 C.2.1 dL_law_490 (by decide) ?_
  refine lv_iadd C.1 C.2.1 dL_law_491 ?_
  rw [nI_add]
  refine va_sld C.1 C.2.1 hX hbl hbA hS (nI_in (show i + 1 < L by omega) (by omega)) dL_law_492 ?_
  refine lw_callV C (as := [vI (xs (nI (i + 1)).toNatClampNeg)]) (rest := [.int r]) mvL8_away mlL8_away (d := 32) ⟨rfl, by decide +kernel⟩ (s8_away (xs (nI (i + 1)).toNatClampNeg) _ _ _ e2) rfl (Nat.le_of_ble_eq_true rfl) (Nat.le_of_ble_eq_true rfl) (Nat.le_of_ble_eq_true rfl) rfl dL_law_493 hl.1 hP hS (fun H locs hP hS => ?_) hc hsl
  refine lv_icmp_eq (tgt := 807) C.1 C.2.1 dL_law_496 (by decide) (fun _ => ?_) (fun z => absurd rfl z)
  exact kk w2 H locs hr2 hP hS
theorem lk_smoke (C : LC p s m c b L xs D cy ad A) {i j : Nat} {w : Mem} (hi : i + 2 < L) (hL : L ≤ 192) (hn : j < 100) (hr : Rel j w) (hP : va_P D vwCl (wld cy ad w) H) (hS : va_S A s.heap H locs) (hl : lv_has ls 4 [(0, .ref b), (1, .ref (ad (26, 0))), (2, .ref (ad (32, 0))), (3, .int (nI i))]) (hc : cells ≤ 600000) (hsl : slots ≤ 7302250)
    (kk : ∀ (w' : Mem) (H : Heap) (locs : List Loc), Rel (j + 1) w' → va_P D vwCl (wld cy ad w') H → va_S A s.heap H locs → W p l e room_1 s m #[Value.ref b] below meth c H locs cells slots Q (F0 m 807 ls [])) : W p l e room_1 s m #[Value.ref b] below meth c H locs cells slots Q (F0 m 501 ls []) := by
  have hX := C.2.2.2.2.2.2.2.2.1
  have hbl := C.2.2.2.2.2.2.2.2.2.1
  have hbA := C.2.2.2.2.2.2.2.2.2.2
  obtain ⟨r, w1, w2, e1, e2, hr2⟩ := q_smoke hn hr (xs (nI (i + 1)).toNatClampNeg) (xs (nI (i + 2)).toNatClampNeg)
  refine lv_aload_n C.1 C.2.1 dL_law_501 rfl (lv_at hl 1 rfl) ?_
  refine lv_aload_n C.1 C.2.1 dL_law_502 rfl (lv_at hl 0 rfl) ?_
  refine lv_iload_n C.1 C.2.1 dL_law_503 rfl (lv_at hl 3 rfl) ?_
  refine lv_iconst (v := nI 1) C.1 C.2.1 dL_law_504 (by decide) ?_
  refine lv_iadd C.1 C.2.1 dL_law_505 ?_
  rw [nI_add]
  refine va_sld C.1 C.2.1 hX hbl hbA hS (nI_in (show i + 1 < L by omega) (by omega)) dL_law_506 ?_
  refine lv_aload_n C.1 C.2.1 dL_law_507 rfl (lv_at hl 0 rfl) ?_
  refine lv_iload_n C.1 C.2.1 dL_law_508 rfl (lv_at hl 3 rfl) ?_
  refine lv_iconst (v := nI 2) C.1 C.2.1 dL_law_509 (by decide) ?_
  refine lv_iadd C.1 C.2.1 dL_law_510 ?_
  rw [nI_add]
  refine va_sld C.1 C.2.1 hX hbl hbA hS (nI_in (show i + 2 < L by omega) (by omega)) dL_law_511 ?_
  refine lw_callV C (as := [vI (xs (nI (i + 1)).toNatClampNeg), vI (xs (nI (i + 2)).toNatClampNeg)]) (rest := []) mvL7_smoke mlL7_smoke (d := 26) ⟨rfl, by decide +kernel⟩ (s7_smoke (xs (nI (i + 1)).toNatClampNeg) (xs (nI (i + 2)).toNatClampNeg) _ _ _ e1) rfl (Nat.le_of_ble_eq_true rfl) (Nat.le_of_ble_eq_true rfl) (Nat.le_of_ble_eq_true rfl) rfl dL_law_512 hl.1 hP hS (fun H locs hP hS => ?_) hc hsl
  refine lv_aload_n C.1 C.2.1 dL_law_515 rfl (lv_at hl 2 rfl) ?_
  refine lv_aload_n C.1 C.2.1 dL_law_516 rfl (lv_at hl 0 rfl) ?_
  refine lv_iload_n C.1 C.2.1 dL_law_517 rfl (lv_at hl 3 rfl) ?_
  refine lv_iconst (v := nI 1) C.1 C.2.1 dL_law_518 (by decide) ?_
  refine lv_iadd C.1 C.2.1 dL_law_519 ?_
  rw [nI_add]
  refine va_sld C.1 C.2.1 hX hbl hbA hS (nI_in (show i + 1 < L by omega) (by omega)) dL_law_520 ?_
  refine lv_aload_n C.1 C.2.1 dL_law_521 rfl (lv_at hl 0 rfl) ?_
  refine lv_iload_n C.1 C.2.1 dL_law_522 rfl (lv_at hl 3 rfl) ?_
  refine lv_iconst (v := nI 2) C.1 C.2.1 dL_law_523 (by decide) ?_
  refine lv_iadd C.1 C.2.1 dL_law_524 ?_
  rw [nI_add]
  refine va_sld C.1 C.2.1 hX hbl hbA hS (nI_in (show i + 2 < L by omega) (by omega)) dL_law_525 ?_
  refine lw_callV C (as := [vI (xs (nI (i + 1)).toNatClampNeg), vI (xs (nI (i + 2)).toNatClampNeg)]) (rest := [.int r]) mvL8_smoke mlL8_smoke (d := 32) ⟨rfl, by decide +kernel⟩ (s8_smoke (xs (nI (i + 1)).toNatClampNeg) (xs (nI (i + 2)).toNatClampNeg) _ _ _ e2) rfl (Nat.le_of_ble_eq_true rfl) (Nat.le_of_ble_eq_true rfl) (Nat.le_of_ble_eq_true rfl) rfl dL_law_526 hl.1 hP hS (fun H locs hP hS => ?_) hc hsl
  refine lv_icmp_eq (tgt := 807) C.1 C.2.1 dL_law_529 (by decide) (fun _ => ?_) (fun z => absurd rfl z)
  exact kk w2 H locs hr2 hP hS
theorem lk_inn (C : LC p s m c b L xs D cy ad A) {i j : Nat} {w : Mem} (hi : i + 2 < L) (hL : L ≤ 192) (hn : j < 100) (hr : Rel j w) (hP : va_P D vwCl (wld cy ad w) H) (hS : va_S A s.heap H locs) (hl : lv_has ls 4 [(0, .ref b), (1, .ref (ad (26, 0))), (2, .ref (ad (32, 0))), (3, .int (nI i))]) (hc : cells ≤ 600000) (hsl : slots ≤ 7302250)
    (kk : ∀ (w' : Mem) (H : Heap) (locs : List Loc), Rel (j + 1) w' → va_P D vwCl (wld cy ad w') H → va_S A s.heap H locs → W p l e room_1 s m #[Value.ref b] below meth c H locs cells slots Q (F0 m 807 ls [])) : W p l e room_1 s m #[Value.ref b] below meth c H locs cells slots Q (F0 m 534 ls []) := by
  have hX := C.2.2.2.2.2.2.2.2.1
  have hbl := C.2.2.2.2.2.2.2.2.2.1
  have hbA := C.2.2.2.2.2.2.2.2.2.2
  obtain ⟨r, w1, w2, e1, e2, hr2⟩ := q_inn hn hr (xs (nI (i + 1)).toNatClampNeg)
  refine lv_aload_n C.1 C.2.1 dL_law_534 rfl (lv_at hl 1 rfl) ?_
  refine lv_aload_n C.1 C.2.1 dL_law_535 rfl (lv_at hl 0 rfl) ?_
  refine lv_iload_n C.1 C.2.1 dL_law_536 rfl (lv_at hl 3 rfl) ?_
  refine lv_iconst (v := nI 1) C.1 C.2.1 dL_law_537 (by decide) ?_
  refine lv_iadd C.1 C.2.1 dL_law_538 ?_
  rw [nI_add]
  refine va_sld C.1 C.2.1 hX hbl hbA hS (nI_in (show i + 1 < L by omega) (by omega)) dL_law_539 ?_
  refine lw_callV C (as := [vI (xs (nI (i + 1)).toNatClampNeg)]) (rest := []) mvL7_inn mlL7_inn (d := 26) ⟨rfl, by decide +kernel⟩ (s7_inn (xs (nI (i + 1)).toNatClampNeg) _ _ _ e1) rfl (Nat.le_of_ble_eq_true rfl) (Nat.le_of_ble_eq_true rfl) (Nat.le_of_ble_eq_true rfl) rfl dL_law_540 hl.1 hP hS (fun H locs hP hS => ?_) hc hsl
  refine lv_aload_n C.1 C.2.1 dL_law_543 rfl (lv_at hl 2 rfl) ?_
  refine lv_aload_n C.1 C.2.1 dL_law_544 rfl (lv_at hl 0 rfl) ?_
  refine lv_iload_n C.1 C.2.1 dL_law_545 rfl (lv_at hl 3 rfl) ?_
  refine lv_iconst (v := nI 1) C.1 C.2.1 dL_law_546 (by decide) ?_
  refine lv_iadd C.1 C.2.1 dL_law_547 ?_
  rw [nI_add]
  refine va_sld C.1 C.2.1 hX hbl hbA hS (nI_in (show i + 1 < L by omega) (by omega)) dL_law_548 ?_
  refine lw_callV C (as := [vI (xs (nI (i + 1)).toNatClampNeg)]) (rest := [.int r]) mvL8_inn mlL8_inn (d := 32) ⟨rfl, by decide +kernel⟩ (s8_inn (xs (nI (i + 1)).toNatClampNeg) _ _ _ e2) rfl (Nat.le_of_ble_eq_true rfl) (Nat.le_of_ble_eq_true rfl) (Nat.le_of_ble_eq_true rfl) rfl dL_law_549 hl.1 hP hS (fun H locs hP hS => ?_) hc hsl
  refine lv_icmp_eq (tgt := 807) C.1 C.2.1 dL_law_552 (by decide) (fun _ => ?_) (fun z => absurd rfl z)
  exact kk w2 H locs hr2 hP hS
theorem lk_feet (C : LC p s m c b L xs D cy ad A) {i j : Nat} {w : Mem} (hi : i + 2 < L) (hL : L ≤ 192) (hn : j < 100) (hr : Rel j w) (hP : va_P D vwCl (wld cy ad w) H) (hS : va_S A s.heap H locs) (hl : lv_has ls 4 [(0, .ref b), (1, .ref (ad (26, 0))), (2, .ref (ad (32, 0))), (3, .int (nI i))]) (hc : cells ≤ 600000) (hsl : slots ≤ 7302250)
    (kk : ∀ (w' : Mem) (H : Heap) (locs : List Loc), Rel (j + 1) w' → va_P D vwCl (wld cy ad w') H → va_S A s.heap H locs → W p l e room_1 s m #[Value.ref b] below meth c H locs cells slots Q (F0 m 807 ls [])) : W p l e room_1 s m #[Value.ref b] below meth c H locs cells slots Q (F0 m 557 ls []) := by
  have hX := C.2.2.2.2.2.2.2.2.1
  have hbl := C.2.2.2.2.2.2.2.2.2.1
  have hbA := C.2.2.2.2.2.2.2.2.2.2
  obtain ⟨r, w1, w2, e1, e2, hr2⟩ := q_feet hn hr (xs (nI (i + 1)).toNatClampNeg) (xs (nI (i + 2)).toNatClampNeg)
  refine lv_aload_n C.1 C.2.1 dL_law_557 rfl (lv_at hl 1 rfl) ?_
  refine lv_aload_n C.1 C.2.1 dL_law_558 rfl (lv_at hl 0 rfl) ?_
  refine lv_iload_n C.1 C.2.1 dL_law_559 rfl (lv_at hl 3 rfl) ?_
  refine lv_iconst (v := nI 1) C.1 C.2.1 dL_law_560 (by decide) ?_
  refine lv_iadd C.1 C.2.1 dL_law_561 ?_
  rw [nI_add]
  refine va_sld C.1 C.2.1 hX hbl hbA hS (nI_in (show i + 1 < L by omega) (by omega)) dL_law_562 ?_
  refine lv_aload_n C.1 C.2.1 dL_law_563 rfl (lv_at hl 0 rfl) ?_
  refine lv_iload_n C.1 C.2.1 dL_law_564 rfl (lv_at hl 3 rfl) ?_
  refine lv_iconst (v := nI 2) C.1 C.2.1 dL_law_565 (by decide) ?_
  refine lv_iadd C.1 C.2.1 dL_law_566 ?_
  rw [nI_add]
  refine va_sld C.1 C.2.1 hX hbl hbA hS (nI_in (show i + 2 < L by omega) (by omega)) dL_law_567 ?_
  refine lw_callV C (as := [vI (xs (nI (i + 1)).toNatClampNeg), vI (xs (nI (i + 2)).toNatClampNeg)]) (rest := []) mvL7_feet mlL7_feet (d := 26) ⟨rfl, by decide +kernel⟩ (s7_feet (xs (nI (i + 1)).toNatClampNeg) (xs (nI (i + 2)).toNatClampNeg) _ _ _ e1) rfl (Nat.le_of_ble_eq_true rfl) (Nat.le_of_ble_eq_true rfl) (Nat.le_of_ble_eq_true rfl) rfl dL_law_568 hl.1 hP hS (fun H locs hP hS => ?_) hc hsl
  refine lv_aload_n C.1 C.2.1 dL_law_571 rfl (lv_at hl 2 rfl) ?_
  refine lv_aload_n C.1 C.2.1 dL_law_572 rfl (lv_at hl 0 rfl) ?_
  refine lv_iload_n C.1 C.2.1 dL_law_573 rfl (lv_at hl 3 rfl) ?_
  refine lv_iconst (v := nI 1) C.1 C.2.1 dL_law_574 (by decide) ?_
  refine lv_iadd C.1 C.2.1 dL_law_575 ?_
  rw [nI_add]
  refine va_sld C.1 C.2.1 hX hbl hbA hS (nI_in (show i + 1 < L by omega) (by omega)) dL_law_576 ?_
  refine lv_aload_n C.1 C.2.1 dL_law_577 rfl (lv_at hl 0 rfl) ?_
  refine lv_iload_n C.1 C.2.1 dL_law_578 rfl (lv_at hl 3 rfl) ?_
  refine lv_iconst (v := nI 2) C.1 C.2.1 dL_law_579 (by decide) ?_
  refine lv_iadd C.1 C.2.1 dL_law_580 ?_
  rw [nI_add]
  refine va_sld C.1 C.2.1 hX hbl hbA hS (nI_in (show i + 2 < L by omega) (by omega)) dL_law_581 ?_
  refine lw_callV C (as := [vI (xs (nI (i + 1)).toNatClampNeg), vI (xs (nI (i + 2)).toNatClampNeg)]) (rest := [.int r]) mvL8_feet mlL8_feet (d := 32) ⟨rfl, by decide +kernel⟩ (s8_feet (xs (nI (i + 1)).toNatClampNeg) (xs (nI (i + 2)).toNatClampNeg) _ _ _ e2) rfl (Nat.le_of_ble_eq_true rfl) (Nat.le_of_ble_eq_true rfl) (Nat.le_of_ble_eq_true rfl) rfl dL_law_582 hl.1 hP hS (fun H locs hP hS => ?_) hc hsl
  refine lv_icmp_eq (tgt := 807) C.1 C.2.1 dL_law_585 (by decide) (fun _ => ?_) (fun z => absurd rfl z)
  exact kk w2 H locs hr2 hP hS
theorem lk_odds (C : LC p s m c b L xs D cy ad A) {i j : Nat} {w : Mem} (hi : i + 2 < L) (hL : L ≤ 192) (hn : j < 100) (hr : Rel j w) (hP : va_P D vwCl (wld cy ad w) H) (hS : va_S A s.heap H locs) (hl : lv_has ls 4 [(0, .ref b), (1, .ref (ad (26, 0))), (2, .ref (ad (32, 0))), (3, .int (nI i))]) (hc : cells ≤ 600000) (hsl : slots ≤ 7302250)
    (kk : ∀ (w' : Mem) (H : Heap) (locs : List Loc), Rel (j + 1) w' → va_P D vwCl (wld cy ad w') H → va_S A s.heap H locs → W p l e room_1 s m #[Value.ref b] below meth c H locs cells slots Q (F0 m 807 ls [])) : W p l e room_1 s m #[Value.ref b] below meth c H locs cells slots Q (F0 m 590 ls []) := by
  have hX := C.2.2.2.2.2.2.2.2.1
  have hbl := C.2.2.2.2.2.2.2.2.2.1
  have hbA := C.2.2.2.2.2.2.2.2.2.2
  obtain ⟨r, w1, w2, e1, e2, hr2⟩ := q_odds hn hr (xs (nI (i + 1)).toNatClampNeg)
  refine lv_aload_n C.1 C.2.1 dL_law_590 rfl (lv_at hl 1 rfl) ?_
  refine lv_aload_n C.1 C.2.1 dL_law_591 rfl (lv_at hl 0 rfl) ?_
  refine lv_iload_n C.1 C.2.1 dL_law_592 rfl (lv_at hl 3 rfl) ?_
  refine lv_iconst (v := nI 1) C.1 C.2.1 dL_law_593 (by decide) ?_
  refine lv_iadd C.1 C.2.1 dL_law_594 ?_
  rw [nI_add]
  refine va_sld C.1 C.2.1 hX hbl hbA hS (nI_in (show i + 1 < L by omega) (by omega)) dL_law_595 ?_
  refine lw_callV C (as := [vI (xs (nI (i + 1)).toNatClampNeg)]) (rest := []) mvL7_odds mlL7_odds (d := 26) ⟨rfl, by decide +kernel⟩ (s7_odds (xs (nI (i + 1)).toNatClampNeg) _ _ _ e1) rfl (Nat.le_of_ble_eq_true rfl) (Nat.le_of_ble_eq_true rfl) (Nat.le_of_ble_eq_true rfl) rfl dL_law_596 hl.1 hP hS (fun H locs hP hS => ?_) hc hsl
  refine lv_aload_n C.1 C.2.1 dL_law_599 rfl (lv_at hl 2 rfl) ?_
  refine lv_aload_n C.1 C.2.1 dL_law_600 rfl (lv_at hl 0 rfl) ?_
  refine lv_iload_n C.1 C.2.1 dL_law_601 rfl (lv_at hl 3 rfl) ?_
  refine lv_iconst (v := nI 1) C.1 C.2.1 dL_law_602 (by decide) ?_
  refine lv_iadd C.1 C.2.1 dL_law_603 ?_
  rw [nI_add]
  refine va_sld C.1 C.2.1 hX hbl hbA hS (nI_in (show i + 1 < L by omega) (by omega)) dL_law_604 ?_
  refine lw_callV C (as := [vI (xs (nI (i + 1)).toNatClampNeg)]) (rest := [.int r]) mvL8_odds mlL8_odds (d := 32) ⟨rfl, by decide +kernel⟩ (s8_odds (xs (nI (i + 1)).toNatClampNeg) _ _ _ e2) rfl (Nat.le_of_ble_eq_true rfl) (Nat.le_of_ble_eq_true rfl) (Nat.le_of_ble_eq_true rfl) rfl dL_law_605 hl.1 hP hS (fun H locs hP hS => ?_) hc hsl
  refine lv_icmp_eq (tgt := 807) C.1 C.2.1 dL_law_608 (by decide) (fun _ => ?_) (fun z => absurd rfl z)
  exact kk w2 H locs hr2 hP hS
theorem lk_see (C : LC p s m c b L xs D cy ad A) {i j : Nat} {w : Mem} (hi : i + 2 < L) (hL : L ≤ 192) (hn : j < 100) (hr : Rel j w) (hP : va_P D vwCl (wld cy ad w) H) (hS : va_S A s.heap H locs) (hl : lv_has ls 4 [(0, .ref b), (1, .ref (ad (26, 0))), (2, .ref (ad (32, 0))), (3, .int (nI i))]) (hc : cells ≤ 600000) (hsl : slots ≤ 7302250)
    (kk : ∀ (w' : Mem) (H : Heap) (locs : List Loc), Rel (j + 1) w' → va_P D vwCl (wld cy ad w') H → va_S A s.heap H locs → W p l e room_1 s m #[Value.ref b] below meth c H locs cells slots Q (F0 m 807 ls [])) : W p l e room_1 s m #[Value.ref b] below meth c H locs cells slots Q (F0 m 613 ls []) := by
  have hX := C.2.2.2.2.2.2.2.2.1
  have hbl := C.2.2.2.2.2.2.2.2.2.1
  have hbA := C.2.2.2.2.2.2.2.2.2.2
  obtain ⟨r, w1, w2, e1, e2, hr2⟩ := q_see hr (xs (nI (i + 1)).toNatClampNeg) (xs (nI (i + 2)).toNatClampNeg)
  refine lv_aload_n C.1 C.2.1 dL_law_613 rfl (lv_at hl 1 rfl) ?_
  refine lv_aload_n C.1 C.2.1 dL_law_614 rfl (lv_at hl 0 rfl) ?_
  refine lv_iload_n C.1 C.2.1 dL_law_615 rfl (lv_at hl 3 rfl) ?_
  refine lv_iconst (v := nI 1) C.1 C.2.1 dL_law_616 (by decide) ?_
  refine lv_iadd C.1 C.2.1 dL_law_617 ?_
  rw [nI_add]
  refine va_sld C.1 C.2.1 hX hbl hbA hS (nI_in (show i + 1 < L by omega) (by omega)) dL_law_618 ?_
  refine lv_aload_n C.1 C.2.1 dL_law_619 rfl (lv_at hl 0 rfl) ?_
  refine lv_iload_n C.1 C.2.1 dL_law_620 rfl (lv_at hl 3 rfl) ?_
  refine lv_iconst (v := nI 2) C.1 C.2.1 dL_law_621 (by decide) ?_
  refine lv_iadd C.1 C.2.1 dL_law_622 ?_
  rw [nI_add]
  refine va_sld C.1 C.2.1 hX hbl hbA hS (nI_in (show i + 2 < L by omega) (by omega)) dL_law_623 ?_
  refine lw_callV C (as := [vI (xs (nI (i + 1)).toNatClampNeg), vI (xs (nI (i + 2)).toNatClampNeg)]) (rest := []) mvL7_see mlL7_see (d := 26) ⟨rfl, by decide +kernel⟩ (s7_see (xs (nI (i + 1)).toNatClampNeg) (xs (nI (i + 2)).toNatClampNeg) _ _ _ e1) rfl (Nat.le_of_ble_eq_true rfl) (Nat.le_of_ble_eq_true rfl) (Nat.le_of_ble_eq_true rfl) rfl dL_law_624 hl.1 hP hS (fun H locs hP hS => ?_) hc hsl
  refine lv_aload_n C.1 C.2.1 dL_law_627 rfl (lv_at hl 2 rfl) ?_
  refine lv_aload_n C.1 C.2.1 dL_law_628 rfl (lv_at hl 0 rfl) ?_
  refine lv_iload_n C.1 C.2.1 dL_law_629 rfl (lv_at hl 3 rfl) ?_
  refine lv_iconst (v := nI 1) C.1 C.2.1 dL_law_630 (by decide) ?_
  refine lv_iadd C.1 C.2.1 dL_law_631 ?_
  rw [nI_add]
  refine va_sld C.1 C.2.1 hX hbl hbA hS (nI_in (show i + 1 < L by omega) (by omega)) dL_law_632 ?_
  refine lv_aload_n C.1 C.2.1 dL_law_633 rfl (lv_at hl 0 rfl) ?_
  refine lv_iload_n C.1 C.2.1 dL_law_634 rfl (lv_at hl 3 rfl) ?_
  refine lv_iconst (v := nI 2) C.1 C.2.1 dL_law_635 (by decide) ?_
  refine lv_iadd C.1 C.2.1 dL_law_636 ?_
  rw [nI_add]
  refine va_sld C.1 C.2.1 hX hbl hbA hS (nI_in (show i + 2 < L by omega) (by omega)) dL_law_637 ?_
  refine lw_callV C (as := [vI (xs (nI (i + 1)).toNatClampNeg), vI (xs (nI (i + 2)).toNatClampNeg)]) (rest := [.int r]) mvL8_see mlL8_see (d := 32) ⟨rfl, by decide +kernel⟩ (s8_see (xs (nI (i + 1)).toNatClampNeg) (xs (nI (i + 2)).toNatClampNeg) _ _ _ e2) rfl (Nat.le_of_ble_eq_true rfl) (Nat.le_of_ble_eq_true rfl) (Nat.le_of_ble_eq_true rfl) rfl dL_law_638 hl.1 hP hS (fun H locs hP hS => ?_) hc hsl
  refine lv_icmp_eq (tgt := 807) C.1 C.2.1 dL_law_641 (by decide) (fun _ => ?_) (fun z => absurd rfl z)
  exact kk w2 H locs hr2 hP hS
theorem lk_went (C : LC p s m c b L xs D cy ad A) {i j : Nat} {w : Mem} (hi : i + 2 < L) (hL : L ≤ 192) (hn : j < 100) (hr : Rel j w) (hP : va_P D vwCl (wld cy ad w) H) (hS : va_S A s.heap H locs) (hl : lv_has ls 4 [(0, .ref b), (1, .ref (ad (26, 0))), (2, .ref (ad (32, 0))), (3, .int (nI i))]) (hc : cells ≤ 600000) (hsl : slots ≤ 7302250)
    (kk : ∀ (w' : Mem) (H : Heap) (locs : List Loc), Rel (j + 1) w' → va_P D vwCl (wld cy ad w') H → va_S A s.heap H locs → W p l e room_1 s m #[Value.ref b] below meth c H locs cells slots Q (F0 m 807 ls [])) : W p l e room_1 s m #[Value.ref b] below meth c H locs cells slots Q (F0 m 646 ls []) := by
  have hX := C.2.2.2.2.2.2.2.2.1
  have hbl := C.2.2.2.2.2.2.2.2.2.1
  have hbA := C.2.2.2.2.2.2.2.2.2.2
  obtain ⟨r, w1, w2, e1, e2, hr2⟩ := q_went hn hr (xs (nI (i + 1)).toNatClampNeg) (xs (nI (i + 2)).toNatClampNeg)
  refine lv_aload_n C.1 C.2.1 dL_law_646 rfl (lv_at hl 1 rfl) ?_
  refine lv_aload_n C.1 C.2.1 dL_law_647 rfl (lv_at hl 0 rfl) ?_
  refine lv_iload_n C.1 C.2.1 dL_law_648 rfl (lv_at hl 3 rfl) ?_
  refine lv_iconst (v := nI 1) C.1 C.2.1 dL_law_649 (by decide) ?_
  refine lv_iadd C.1 C.2.1 dL_law_650 ?_
  rw [nI_add]
  refine va_sld C.1 C.2.1 hX hbl hbA hS (nI_in (show i + 1 < L by omega) (by omega)) dL_law_651 ?_
  refine lv_aload_n C.1 C.2.1 dL_law_652 rfl (lv_at hl 0 rfl) ?_
  refine lv_iload_n C.1 C.2.1 dL_law_653 rfl (lv_at hl 3 rfl) ?_
  refine lv_iconst (v := nI 2) C.1 C.2.1 dL_law_654 (by decide) ?_
  refine lv_iadd C.1 C.2.1 dL_law_655 ?_
  rw [nI_add]
  refine va_sld C.1 C.2.1 hX hbl hbA hS (nI_in (show i + 2 < L by omega) (by omega)) dL_law_656 ?_
  refine lw_callV C (as := [vI (xs (nI (i + 1)).toNatClampNeg), vI (xs (nI (i + 2)).toNatClampNeg)]) (rest := []) mvL7_went mlL7_went (d := 26) ⟨rfl, by decide +kernel⟩ (s7_went (xs (nI (i + 1)).toNatClampNeg) (xs (nI (i + 2)).toNatClampNeg) _ _ _ e1) rfl (Nat.le_of_ble_eq_true rfl) (Nat.le_of_ble_eq_true rfl) (Nat.le_of_ble_eq_true rfl) rfl dL_law_657 hl.1 hP hS (fun H locs hP hS => ?_) hc hsl
  refine lv_aload_n C.1 C.2.1 dL_law_660 rfl (lv_at hl 2 rfl) ?_
  refine lv_aload_n C.1 C.2.1 dL_law_661 rfl (lv_at hl 0 rfl) ?_
  refine lv_iload_n C.1 C.2.1 dL_law_662 rfl (lv_at hl 3 rfl) ?_
  refine lv_iconst (v := nI 1) C.1 C.2.1 dL_law_663 (by decide) ?_
  refine lv_iadd C.1 C.2.1 dL_law_664 ?_
  rw [nI_add]
  refine va_sld C.1 C.2.1 hX hbl hbA hS (nI_in (show i + 1 < L by omega) (by omega)) dL_law_665 ?_
  refine lv_aload_n C.1 C.2.1 dL_law_666 rfl (lv_at hl 0 rfl) ?_
  refine lv_iload_n C.1 C.2.1 dL_law_667 rfl (lv_at hl 3 rfl) ?_
  refine lv_iconst (v := nI 2) C.1 C.2.1 dL_law_668 (by decide) ?_
  refine lv_iadd C.1 C.2.1 dL_law_669 ?_
  rw [nI_add]
  refine va_sld C.1 C.2.1 hX hbl hbA hS (nI_in (show i + 2 < L by omega) (by omega)) dL_law_670 ?_
  refine lw_callV C (as := [vI (xs (nI (i + 1)).toNatClampNeg), vI (xs (nI (i + 2)).toNatClampNeg)]) (rest := [.int r]) mvL8_went mlL8_went (d := 32) ⟨rfl, by decide +kernel⟩ (s8_went (xs (nI (i + 1)).toNatClampNeg) (xs (nI (i + 2)).toNatClampNeg) _ _ _ e2) rfl (Nat.le_of_ble_eq_true rfl) (Nat.le_of_ble_eq_true rfl) (Nat.le_of_ble_eq_true rfl) rfl dL_law_671 hl.1 hP hS (fun H locs hP hS => ?_) hc hsl
  refine lv_icmp_eq (tgt := 807) C.1 C.2.1 dL_law_674 (by decide) (fun _ => ?_) (fun z => absurd rfl z)
  exact kk w2 H locs hr2 hP hS
theorem lk_write (C : LC p s m c b L xs D cy ad A) {i j : Nat} {w : Mem} (hi : i + 2 < L) (hL : L ≤ 192) (hn : j < 100) (hr : Rel j w) (hP : va_P D vwCl (wld cy ad w) H) (hS : va_S A s.heap H locs) (hl : lv_has ls 4 [(0, .ref b), (1, .ref (ad (26, 0))), (2, .ref (ad (32, 0))), (3, .int (nI i))]) (hc : cells ≤ 600000) (hsl : slots ≤ 7302250)
    (kk : ∀ (w' : Mem) (H : Heap) (locs : List Loc), Rel (j + 1) w' → va_P D vwCl (wld cy ad w') H → va_S A s.heap H locs → W p l e room_1 s m #[Value.ref b] below meth c H locs cells slots Q (F0 m 807 ls [])) : W p l e room_1 s m #[Value.ref b] below meth c H locs cells slots Q (F0 m 679 ls []) := by
  have hX := C.2.2.2.2.2.2.2.2.1
  have hbl := C.2.2.2.2.2.2.2.2.2.1
  have hbA := C.2.2.2.2.2.2.2.2.2.2
  obtain ⟨r, w1, w2, e1, e2, hr2⟩ := q_write hr (xs (nI (i + 1)).toNatClampNeg) (xs (nI (i + 2)).toNatClampNeg)
  refine lv_aload_n C.1 C.2.1 dL_law_679 rfl (lv_at hl 1 rfl) ?_
  refine lv_aload_n C.1 C.2.1 dL_law_680 rfl (lv_at hl 0 rfl) ?_
  refine lv_iload_n C.1 C.2.1 dL_law_681 rfl (lv_at hl 3 rfl) ?_
  refine lv_iconst (v := nI 1) C.1 C.2.1 dL_law_682 (by decide) ?_
  refine lv_iadd C.1 C.2.1 dL_law_683 ?_
  rw [nI_add]
  refine va_sld C.1 C.2.1 hX hbl hbA hS (nI_in (show i + 1 < L by omega) (by omega)) dL_law_684 ?_
  refine lv_aload_n C.1 C.2.1 dL_law_685 rfl (lv_at hl 0 rfl) ?_
  refine lv_iload_n C.1 C.2.1 dL_law_686 rfl (lv_at hl 3 rfl) ?_
  refine lv_iconst (v := nI 2) C.1 C.2.1 dL_law_687 (by decide) ?_
  refine lv_iadd C.1 C.2.1 dL_law_688 ?_
  rw [nI_add]
  refine va_sld C.1 C.2.1 hX hbl hbA hS (nI_in (show i + 2 < L by omega) (by omega)) dL_law_689 ?_
  refine lw_callV C (as := [vI (xs (nI (i + 1)).toNatClampNeg), vI (xs (nI (i + 2)).toNatClampNeg)]) (rest := []) mvL7_write mlL7_write (d := 26) ⟨rfl, by decide +kernel⟩ (s7_write (xs (nI (i + 1)).toNatClampNeg) (xs (nI (i + 2)).toNatClampNeg) _ _ _ e1) rfl (Nat.le_of_ble_eq_true rfl) (Nat.le_of_ble_eq_true rfl) (Nat.le_of_ble_eq_true rfl) rfl dL_law_690 hl.1 hP hS (fun H locs hP hS => ?_) hc hsl
  refine lv_aload_n C.1 C.2.1 dL_law_693 rfl (lv_at hl 2 rfl) ?_
  refine lv_aload_n C.1 C.2.1 dL_law_694 rfl (lv_at hl 0 rfl) ?_
  refine lv_iload_n C.1 C.2.1 dL_law_695 rfl (lv_at hl 3 rfl) ?_
  refine lv_iconst (v := nI 1) C.1 C.2.1 dL_law_696 (by decide) ?_
  refine lv_iadd C.1 C.2.1 dL_law_697 ?_
  rw [nI_add]
  refine va_sld C.1 C.2.1 hX hbl hbA hS (nI_in (show i + 1 < L by omega) (by omega)) dL_law_698 ?_
  refine lv_aload_n C.1 C.2.1 dL_law_699 rfl (lv_at hl 0 rfl) ?_
  refine lv_iload_n C.1 C.2.1 dL_law_700 rfl (lv_at hl 3 rfl) ?_
  refine lv_iconst (v := nI 2) C.1 C.2.1 dL_law_701 (by decide) ?_
  refine lv_iadd C.1 C.2.1 dL_law_702 ?_
  rw [nI_add]
  refine va_sld C.1 C.2.1 hX hbl hbA hS (nI_in (show i + 2 < L by omega) (by omega)) dL_law_703 ?_
  refine lw_callV C (as := [vI (xs (nI (i + 1)).toNatClampNeg), vI (xs (nI (i + 2)).toNatClampNeg)]) (rest := [.int r]) mvL8_write mlL8_write (d := 32) ⟨rfl, by decide +kernel⟩ (s8_write (xs (nI (i + 1)).toNatClampNeg) (xs (nI (i + 2)).toNatClampNeg) _ _ _ e2) rfl (Nat.le_of_ble_eq_true rfl) (Nat.le_of_ble_eq_true rfl) (Nat.le_of_ble_eq_true rfl) rfl dL_law_704 hl.1 hP hS (fun H locs hP hS => ?_) hc hsl
  refine lv_icmp_eq (tgt := 807) C.1 C.2.1 dL_law_707 (by decide) (fun _ => ?_) (fun z => absurd rfl z)
  exact kk w2 H locs hr2 hP hS
theorem lk_tear (C : LC p s m c b L xs D cy ad A) {i j : Nat} {w : Mem} (hi : i + 2 < L) (hL : L ≤ 192) (hn : j < 100) (hr : Rel j w) (hP : va_P D vwCl (wld cy ad w) H) (hS : va_S A s.heap H locs) (hl : lv_has ls 4 [(0, .ref b), (1, .ref (ad (26, 0))), (2, .ref (ad (32, 0))), (3, .int (nI i))]) (hc : cells ≤ 600000) (hsl : slots ≤ 7302250)
    (kk : ∀ (w' : Mem) (H : Heap) (locs : List Loc), Rel (j + 1) w' → va_P D vwCl (wld cy ad w') H → va_S A s.heap H locs → W p l e room_1 s m #[Value.ref b] below meth c H locs cells slots Q (F0 m 807 ls [])) : W p l e room_1 s m #[Value.ref b] below meth c H locs cells slots Q (F0 m 712 ls []) := by
  have hX := C.2.2.2.2.2.2.2.2.1
  have hbl := C.2.2.2.2.2.2.2.2.2.1
  have hbA := C.2.2.2.2.2.2.2.2.2.2
  obtain ⟨r, w1, w2, e1, e2, hr2⟩ := q_tear hr 
  refine lv_aload_n C.1 C.2.1 dL_law_712 rfl (lv_at hl 1 rfl) ?_
  refine lw_callV C (as := []) (rest := []) mvL7_tear mlL7_tear (d := 26) ⟨rfl, by decide +kernel⟩ (s7_tear  _ _ _ e1) rfl (Nat.le_of_ble_eq_true rfl) (Nat.le_of_ble_eq_true rfl) (Nat.le_of_ble_eq_true rfl) rfl dL_law_713 hl.1 hP hS (fun H locs hP hS => ?_) hc hsl
  refine lv_aload_n C.1 C.2.1 dL_law_716 rfl (lv_at hl 2 rfl) ?_
  refine lw_callV C (as := []) (rest := [.int r]) mvL8_tear mlL8_tear (d := 32) ⟨rfl, by decide +kernel⟩ (s8_tear  _ _ _ e2) rfl (Nat.le_of_ble_eq_true rfl) (Nat.le_of_ble_eq_true rfl) (Nat.le_of_ble_eq_true rfl) rfl dL_law_717 hl.1 hP hS (fun H locs hP hS => ?_) hc hsl
  refine lv_icmp_eq (tgt := 807) C.1 C.2.1 dL_law_720 (by decide) (fun _ => ?_) (fun z => absurd rfl z)
  exact kk w2 H locs hr2 hP hS
theorem lk_judge (C : LC p s m c b L xs D cy ad A) {i j : Nat} {w : Mem} (hi : i + 2 < L) (hL : L ≤ 192) (hn : j < 100) (hr : Rel j w) (hP : va_P D vwCl (wld cy ad w) H) (hS : va_S A s.heap H locs) (hl : lv_has ls 4 [(0, .ref b), (1, .ref (ad (26, 0))), (2, .ref (ad (32, 0))), (3, .int (nI i))]) (hc : cells ≤ 600000) (hsl : slots ≤ 7302250)
    (kk : ∀ (w' : Mem) (H : Heap) (locs : List Loc), Rel (j + 1) w' → va_P D vwCl (wld cy ad w') H → va_S A s.heap H locs → W p l e room_1 s m #[Value.ref b] below meth c H locs cells slots Q (F0 m 807 ls [])) : W p l e room_1 s m #[Value.ref b] below meth c H locs cells slots Q (F0 m 725 ls []) := by
  have hX := C.2.2.2.2.2.2.2.2.1
  have hbl := C.2.2.2.2.2.2.2.2.2.1
  have hbA := C.2.2.2.2.2.2.2.2.2.2
  obtain ⟨r, w1, w2, e1, e2, hr2⟩ := q_judge hn hr 
  refine lv_aload_n C.1 C.2.1 dL_law_725 rfl (lv_at hl 1 rfl) ?_
  refine lw_callV C (as := []) (rest := []) mvL7_judge mlL7_judge (d := 26) ⟨rfl, by decide +kernel⟩ (s7_judge  _ _ _ e1) rfl (Nat.le_of_ble_eq_true rfl) (Nat.le_of_ble_eq_true rfl) (Nat.le_of_ble_eq_true rfl) rfl dL_law_726 hl.1 hP hS (fun H locs hP hS => ?_) hc hsl
  refine lv_aload_n C.1 C.2.1 dL_law_729 rfl (lv_at hl 2 rfl) ?_
  refine lw_callV C (as := []) (rest := [.int r]) mvL8_judge mlL8_judge (d := 32) ⟨rfl, by decide +kernel⟩ (s8_judge  _ _ _ e2) rfl (Nat.le_of_ble_eq_true rfl) (Nat.le_of_ble_eq_true rfl) (Nat.le_of_ble_eq_true rfl) rfl dL_law_730 hl.1 hP hS (fun H locs hP hS => ?_) hc hsl
  refine lv_icmp_eq (tgt := 807) C.1 C.2.1 dL_law_733 (by decide) (fun _ => ?_) (fun z => absurd rfl z)
  exact kk w2 H locs hr2 hP hS
theorem lk_seed (C : LC p s m c b L xs D cy ad A) {i j : Nat} {w : Mem} (hi : i + 2 < L) (hL : L ≤ 192) (hn : j < 100) (hr : Rel j w) (hP : va_P D vwCl (wld cy ad w) H) (hS : va_S A s.heap H locs) (hl : lv_has ls 4 [(0, .ref b), (1, .ref (ad (26, 0))), (2, .ref (ad (32, 0))), (3, .int (nI i))]) (hc : cells ≤ 600000) (hsl : slots ≤ 7302250)
    (kk : ∀ (w' : Mem) (H : Heap) (locs : List Loc), Rel (j + 1) w' → va_P D vwCl (wld cy ad w') H → va_S A s.heap H locs → W p l e room_1 s m #[Value.ref b] below meth c H locs cells slots Q (F0 m 807 ls [])) : W p l e room_1 s m #[Value.ref b] below meth c H locs cells slots Q (F0 m 738 ls []) := by
  have hX := C.2.2.2.2.2.2.2.2.1
  have hbl := C.2.2.2.2.2.2.2.2.2.1
  have hbA := C.2.2.2.2.2.2.2.2.2.2
  obtain ⟨r, w1, w2, e1, e2, hr2⟩ := q_seed hr (xs (nI (i + 1)).toNatClampNeg)
  refine lv_aload_n C.1 C.2.1 dL_law_738 rfl (lv_at hl 1 rfl) ?_
  refine lv_aload_n C.1 C.2.1 dL_law_739 rfl (lv_at hl 0 rfl) ?_
  refine lv_iload_n C.1 C.2.1 dL_law_740 rfl (lv_at hl 3 rfl) ?_
  refine lv_iconst (v := nI 1) C.1 C.2.1 dL_law_741 (by decide) ?_
  refine lv_iadd C.1 C.2.1 dL_law_742 ?_
  rw [nI_add]
  refine va_sld C.1 C.2.1 hX hbl hbA hS (nI_in (show i + 1 < L by omega) (by omega)) dL_law_743 ?_
  refine lw_callV C (as := [vI (xs (nI (i + 1)).toNatClampNeg)]) (rest := []) mvL7_seed mlL7_seed (d := 26) ⟨rfl, by decide +kernel⟩ (s7_seed (xs (nI (i + 1)).toNatClampNeg) _ _ _ e1) rfl (Nat.le_of_ble_eq_true rfl) (Nat.le_of_ble_eq_true rfl) (Nat.le_of_ble_eq_true rfl) rfl dL_law_744 hl.1 hP hS (fun H locs hP hS => ?_) hc hsl
  refine lv_aload_n C.1 C.2.1 dL_law_747 rfl (lv_at hl 2 rfl) ?_
  refine lv_aload_n C.1 C.2.1 dL_law_748 rfl (lv_at hl 0 rfl) ?_
  refine lv_iload_n C.1 C.2.1 dL_law_749 rfl (lv_at hl 3 rfl) ?_
  refine lv_iconst (v := nI 1) C.1 C.2.1 dL_law_750 (by decide) ?_
  refine lv_iadd C.1 C.2.1 dL_law_751 ?_
  rw [nI_add]
  refine va_sld C.1 C.2.1 hX hbl hbA hS (nI_in (show i + 1 < L by omega) (by omega)) dL_law_752 ?_
  refine lw_callV C (as := [vI (xs (nI (i + 1)).toNatClampNeg)]) (rest := [.int r]) mvL8_seed mlL8_seed (d := 32) ⟨rfl, by decide +kernel⟩ (s8_seed (xs (nI (i + 1)).toNatClampNeg) _ _ _ e2) rfl (Nat.le_of_ble_eq_true rfl) (Nat.le_of_ble_eq_true rfl) (Nat.le_of_ble_eq_true rfl) rfl dL_law_753 hl.1 hP hS (fun H locs hP hS => ?_) hc hsl
  refine lv_icmp_eq (tgt := 807) C.1 C.2.1 dL_law_756 (by decide) (fun _ => ?_) (fun z => absurd rfl z)
  exact kk w2 H locs hr2 hP hS
theorem lk_keep (C : LC p s m c b L xs D cy ad A) {i j : Nat} {w : Mem} (hi : i + 2 < L) (hL : L ≤ 192) (hn : j < 100) (hr : Rel j w) (hP : va_P D vwCl (wld cy ad w) H) (hS : va_S A s.heap H locs) (hl : lv_has ls 4 [(0, .ref b), (1, .ref (ad (26, 0))), (2, .ref (ad (32, 0))), (3, .int (nI i))]) (hc : cells ≤ 600000) (hsl : slots ≤ 7302250)
    (kk : ∀ (w' : Mem) (H : Heap) (locs : List Loc), Rel (j + 1) w' → va_P D vwCl (wld cy ad w') H → va_S A s.heap H locs → W p l e room_1 s m #[Value.ref b] below meth c H locs cells slots Q (F0 m 807 ls [])) : W p l e room_1 s m #[Value.ref b] below meth c H locs cells slots Q (F0 m 761 ls []) := by
  have hX := C.2.2.2.2.2.2.2.2.1
  have hbl := C.2.2.2.2.2.2.2.2.2.1
  have hbA := C.2.2.2.2.2.2.2.2.2.2
  obtain ⟨r, w1, w2, e1, e2, hr2⟩ := q_keep hn hr (xs (nI (i + 1)).toNatClampNeg)
  refine lv_aload_n C.1 C.2.1 dL_law_761 rfl (lv_at hl 1 rfl) ?_
  refine lv_aload_n C.1 C.2.1 dL_law_762 rfl (lv_at hl 0 rfl) ?_
  refine lv_iload_n C.1 C.2.1 dL_law_763 rfl (lv_at hl 3 rfl) ?_
  refine lv_iconst (v := nI 1) C.1 C.2.1 dL_law_764 (by decide) ?_
  refine lv_iadd C.1 C.2.1 dL_law_765 ?_
  rw [nI_add]
  refine va_sld C.1 C.2.1 hX hbl hbA hS (nI_in (show i + 1 < L by omega) (by omega)) dL_law_766 ?_
  refine lw_callV C (as := [vI (xs (nI (i + 1)).toNatClampNeg)]) (rest := []) mvL7_keep mlL7_keep (d := 26) ⟨rfl, by decide +kernel⟩ (s7_keep (xs (nI (i + 1)).toNatClampNeg) _ _ _ e1) rfl (Nat.le_of_ble_eq_true rfl) (Nat.le_of_ble_eq_true rfl) (Nat.le_of_ble_eq_true rfl) rfl dL_law_767 hl.1 hP hS (fun H locs hP hS => ?_) hc hsl
  refine lv_aload_n C.1 C.2.1 dL_law_770 rfl (lv_at hl 2 rfl) ?_
  refine lv_aload_n C.1 C.2.1 dL_law_771 rfl (lv_at hl 0 rfl) ?_
  refine lv_iload_n C.1 C.2.1 dL_law_772 rfl (lv_at hl 3 rfl) ?_
  refine lv_iconst (v := nI 1) C.1 C.2.1 dL_law_773 (by decide) ?_
  refine lv_iadd C.1 C.2.1 dL_law_774 ?_
  rw [nI_add]
  refine va_sld C.1 C.2.1 hX hbl hbA hS (nI_in (show i + 1 < L by omega) (by omega)) dL_law_775 ?_
  refine lw_callV C (as := [vI (xs (nI (i + 1)).toNatClampNeg)]) (rest := [.int r]) mvL8_keep mlL8_keep (d := 32) ⟨rfl, by decide +kernel⟩ (s8_keep (xs (nI (i + 1)).toNatClampNeg) _ _ _ e2) rfl (Nat.le_of_ble_eq_true rfl) (Nat.le_of_ble_eq_true rfl) (Nat.le_of_ble_eq_true rfl) rfl dL_law_776 hl.1 hP hS (fun H locs hP hS => ?_) hc hsl
  refine lv_icmp_eq (tgt := 807) C.1 C.2.1 dL_law_779 (by decide) (fun _ => ?_) (fun z => absurd rfl z)
  exact kk w2 H locs hr2 hP hS
theorem lk_goBack (C : LC p s m c b L xs D cy ad A) {i j : Nat} {w : Mem} (hi : i + 2 < L) (hL : L ≤ 192) (hn : j < 100) (hr : Rel j w) (hP : va_P D vwCl (wld cy ad w) H) (hS : va_S A s.heap H locs) (hl : lv_has ls 4 [(0, .ref b), (1, .ref (ad (26, 0))), (2, .ref (ad (32, 0))), (3, .int (nI i))]) (hc : cells ≤ 600000) (hsl : slots ≤ 7302250)
    (kk : ∀ (w' : Mem) (H : Heap) (locs : List Loc), Rel (j + 1) w' → va_P D vwCl (wld cy ad w') H → va_S A s.heap H locs → W p l e room_1 s m #[Value.ref b] below meth c H locs cells slots Q (F0 m 807 ls [])) : W p l e room_1 s m #[Value.ref b] below meth c H locs cells slots Q (F0 m 784 ls []) := by
  have hX := C.2.2.2.2.2.2.2.2.1
  have hbl := C.2.2.2.2.2.2.2.2.2.1
  have hbA := C.2.2.2.2.2.2.2.2.2.2
  obtain ⟨r, w1, w2, e1, e2, hr2⟩ := q_goBack hn hr (xs (nI (i + 1)).toNatClampNeg)
  refine lv_aload_n C.1 C.2.1 dL_law_784 rfl (lv_at hl 1 rfl) ?_
  refine lv_aload_n C.1 C.2.1 dL_law_785 rfl (lv_at hl 0 rfl) ?_
  refine lv_iload_n C.1 C.2.1 dL_law_786 rfl (lv_at hl 3 rfl) ?_
  refine lv_iconst (v := nI 1) C.1 C.2.1 dL_law_787 (by decide) ?_
  refine lv_iadd C.1 C.2.1 dL_law_788 ?_
  rw [nI_add]
  refine va_sld C.1 C.2.1 hX hbl hbA hS (nI_in (show i + 1 < L by omega) (by omega)) dL_law_789 ?_
  refine lw_callV C (as := [vI (xs (nI (i + 1)).toNatClampNeg)]) (rest := []) mvL7_goBack mlL7_goBack (d := 26) ⟨rfl, by decide +kernel⟩ (s7_goBack (xs (nI (i + 1)).toNatClampNeg) _ _ _ e1) rfl (Nat.le_of_ble_eq_true rfl) (Nat.le_of_ble_eq_true rfl) (Nat.le_of_ble_eq_true rfl) rfl dL_law_790 hl.1 hP hS (fun H locs hP hS => ?_) hc hsl
  refine lv_aload_n C.1 C.2.1 dL_law_793 rfl (lv_at hl 2 rfl) ?_
  refine lv_aload_n C.1 C.2.1 dL_law_794 rfl (lv_at hl 0 rfl) ?_
  refine lv_iload_n C.1 C.2.1 dL_law_795 rfl (lv_at hl 3 rfl) ?_
  refine lv_iconst (v := nI 1) C.1 C.2.1 dL_law_796 (by decide) ?_
  refine lv_iadd C.1 C.2.1 dL_law_797 ?_
  rw [nI_add]
  refine va_sld C.1 C.2.1 hX hbl hbA hS (nI_in (show i + 1 < L by omega) (by omega)) dL_law_798 ?_
  refine lw_callV C (as := [vI (xs (nI (i + 1)).toNatClampNeg)]) (rest := [.int r]) mvL8_goBack mlL8_goBack (d := 32) ⟨rfl, by decide +kernel⟩ (s8_goBack (xs (nI (i + 1)).toNatClampNeg) _ _ _ e2) rfl (Nat.le_of_ble_eq_true rfl) (Nat.le_of_ble_eq_true rfl) (Nat.le_of_ble_eq_true rfl) rfl dL_law_799 hl.1 hP hS (fun H locs hP hS => ?_) hc hsl
  refine lv_icmp_eq (tgt := 807) C.1 C.2.1 dL_law_802 (by decide) (fun _ => ?_) (fun z => absurd rfl z)
  exact kk w2 H locs hr2 hP hS
set_option maxHeartbeats 4000000 in
theorem law_loop (C : LC p s m c b L xs D cy ad A) (hL : L ≤ 192) (hc : cells ≤ 600000) (hsl : slots ≤ 7302250) (kend : ∀ (H : Heap) (locs : List Loc) (ls : Array Slot), va_S A s.heap H locs → W p l e room_1 s m #[Value.ref b] below meth c H locs cells slots Q (F0 m 813 ls [])) :
    ∀ z j w H locs ls, L < 3 * j + z → 3 * j ≤ L → Rel j w → va_P D vwCl (wld cy ad w) H → va_S A s.heap H locs → lv_has ls 4 [(0, .ref b), (1, .ref (ad (26, 0))), (2, .ref (ad (32, 0))), (3, .int (nI (3 * j)))] → W p l e room_1 s m #[Value.ref b] below meth c H locs cells slots Q (F0 m 18 ls []) := by
  have hX := C.2.2.2.2.2.2.2.2.1
  have hbl := C.2.2.2.2.2.2.2.2.2.1
  have hbA := C.2.2.2.2.2.2.2.2.2.2
  intro z
  induction z with
  | zero => intro j w H locs ls h1 h2; omega
  | succ z ih =>
    intro j w H locs ls h1 h2 hr hP hS hl
    refine lv_iload_n C.1 C.2.1 dL_law_18 rfl (lv_at hl 3 rfl) ?_
    refine lv_aload_n C.1 C.2.1 dL_law_19 rfl (lv_at hl 0 rfl) ?_
    refine va_slen C.1 C.2.1 hX hbl hbA hS dL_law_20 ?_
    refine lv_iconst (v := nI 3) C.1 C.2.1 dL_law_21 (by decide) ?_
    refine lv_isub C.1 C.2.1 dL_law_22 ?_
    refine lv_icmp_gt (tgt := 813) C.1 C.2.1 dL_law_23 (by decide) (fun _ => kend H locs ls hS) (fun hz => ?_)
    have hz2 : 3 * j + 3 ≤ L := by
      have q := Int32.not_lt.mp hz
      rw [Int32.le_iff_toInt_le, nI_ti (by omega), show Int32.ofNat L - nI 3 = nI L - nI 3 from rfl, pk_sub_toInt (by omega) (by omega)] at q
      omega
    have back : ∀ (w' : Mem) (H : Heap) (locs : List Loc), Rel (j + 1) w' → va_P D vwCl (wld cy ad w') H → va_S A s.heap H locs → W p l e room_1 s m #[Value.ref b] below meth c H locs cells slots Q (F0 m 807 ls []) := by
      intro w' H locs hr hP hS
      refine lv_iinc (v := nI (3 * (j + 1))) (lv' := [(3, .int (nI (3 * (j + 1)))), (0, .ref b), (1, .ref (ad (26, 0))), (2, .ref (ad (32, 0)))]) C.1 C.2.1 dL_law_807 hl (k := 3) rfl (by exact nI_add (3 * j) 3) (by decide) rfl (fun ls hl => ?_)
      refine lv_goto (tgt := 18) C.1 C.2.1 dL_law_810 (by decide) ?_
      exact ih (j + 1) w' H locs ls (by omega) (by omega) hr hP hS (lv_sub hl [1, 2, 3, 0] rfl)
    refine lv_aload_n C.1 C.2.1 dL_law_26 rfl (lv_at hl 0 rfl) ?_
    refine lv_iload_n C.1 C.2.1 dL_law_27 rfl (lv_at hl 3 rfl) ?_
    refine va_sld C.1 C.2.1 hX hbl hbA hS (nI_in (show 3 * j < L by omega) (by omega)) dL_law_28 ?_
    refine lv_bipush (v := nI 31) C.1 C.2.1 dL_law_29 (by decide) ?_
    refine lv_iand C.1 C.2.1 dL_law_31 ?_
    obtain ⟨k, hk, ek⟩ := and31 (xs (nI (3 * j)).toNatClampNeg)
    rw [ek]
    rcases (show k = 0 ∨ k = 1 ∨ k = 2 ∨ k = 3 ∨ k = 4 ∨ k = 5 ∨ k = 6 ∨ k = 7 ∨ k = 8 ∨ k = 9 ∨ k = 10 ∨ k = 11 ∨ k = 12 ∨ k = 13 ∨ k = 14 ∨ k = 15 ∨ k = 16 ∨ k = 17 ∨ k = 18 ∨ k = 19 ∨ k = 20 ∨ k = 21 ∨ k = 22 ∨ k = 23 ∨ k = 24 ∨ k = 25 ∨ k = 26 ∨ 27 ≤ k by omega) with rfl | rfl | rfl | rfl | rfl | rfl | rfl | rfl | rfl | rfl | rfl | rfl | rfl | rfl | rfl | rfl | rfl | rfl | rfl | rfl | rfl | rfl | rfl | rfl | rfl | rfl | rfl | h27
    · refine lv_tableIn (off := 124) (tgt := 156) C.1 C.2.1 dL_law_32 (by decide) (by decide) (by decide) (by decide) ?_
      exact lk_feed C (i := 3 * j) (by omega) hL (by omega) hr hP hS hl hc hsl back
    · refine lv_tableIn (off := 147) (tgt := 179) C.1 C.2.1 dL_law_32 (by decide) (by decide) (by decide) (by decide) ?_
      exact lk_rock C (i := 3 * j) (by omega) hL (by omega) hr hP hS hl hc hsl back
    · refine lv_tableIn (off := 160) (tgt := 192) C.1 C.2.1 dL_law_32 (by decide) (by decide) (by decide) (by decide) ?_
      exact lk_fault C (i := 3 * j) (by omega) hL (by omega) hr hP hS hl hc hsl back
    · refine lv_tableIn (off := 173) (tgt := 205) C.1 C.2.1 dL_law_32 (by decide) (by decide) (by decide) (by decide) ?_
      exact lk_told C (i := 3 * j) (by omega) hL (by omega) hr hP hS hl hc hsl back
    · refine lv_tableIn (off := 196) (tgt := 228) C.1 C.2.1 dL_law_32 (by decide) (by decide) (by decide) (by decide) ?_
      exact lk_village C (i := 3 * j) (by omega) hL (by omega) hr hP hS hl hc hsl back
    · refine lv_tableIn (off := 229) (tgt := 261) C.1 C.2.1 dL_law_32 (by decide) (by decide) (by decide) (by decide) ?_
      exact lk_comes C (i := 3 * j) (by omega) hL (by omega) hr hP hS hl hc hsl back
    · refine lv_tableIn (off := 252) (tgt := 284) C.1 C.2.1 dL_law_32 (by decide) (by decide) (by decide) (by decide) ?_
      exact lk_blessed C (i := 3 * j) (by omega) hL (by omega) hr hP hS hl hc hsl back
    · refine lv_tableIn (off := 275) (tgt := 307) C.1 C.2.1 dL_law_32 (by decide) (by decide) (by decide) (by decide) ?_
      exact lk_day C (i := 3 * j) (by omega) hL (by omega) hr hP hS hl hc hsl back
    · refine lv_tableIn (off := 298) (tgt := 330) C.1 C.2.1 dL_law_32 (by decide) (by decide) (by decide) (by decide) ?_
      exact lk_calendar C (i := 3 * j) (by omega) hL (by omega) hr hP hS hl hc hsl back
    · refine lv_tableIn (off := 331) (tgt := 363) C.1 C.2.1 dL_law_32 (by decide) (by decide) (by decide) (by decide) ?_
      exact lk_drift C (i := 3 * j) (by omega) hL (by omega) hr hP hS hl hc hsl back
    · refine lv_tableIn (off := 354) (tgt := 386) C.1 C.2.1 dL_law_32 (by decide) (by decide) (by decide) (by decide) ?_
      exact lk_undo C (i := 3 * j) (by omega) hL (by omega) hr hP hS hl hc hsl back
    · refine lv_tableIn (off := 367) (tgt := 399) C.1 C.2.1 dL_law_32 (by decide) (by decide) (by decide) (by decide) ?_
      exact lk_whenDown C (i := 3 * j) (by omega) hL (by omega) hr hP hS hl hc hsl back
    · refine lv_tableIn (off := 380) (tgt := 412) C.1 C.2.1 dL_law_32 (by decide) (by decide) (by decide) (by decide) ?_
      exact lk_ahead C (i := 3 * j) (by omega) hL (by omega) hr hP hS hl hc hsl back
    · refine lv_tableIn (off := 413) (tgt := 445) C.1 C.2.1 dL_law_32 (by decide) (by decide) (by decide) (by decide) ?_
      exact lk_certain C (i := 3 * j) (by omega) hL (by omega) hr hP hS hl hc hsl back
    · refine lv_tableIn (off := 446) (tgt := 478) C.1 C.2.1 dL_law_32 (by decide) (by decide) (by decide) (by decide) ?_
      exact lk_away C (i := 3 * j) (by omega) hL (by omega) hr hP hS hl hc hsl back
    · refine lv_tableIn (off := 469) (tgt := 501) C.1 C.2.1 dL_law_32 (by decide) (by decide) (by decide) (by decide) ?_
      exact lk_smoke C (i := 3 * j) (by omega) hL (by omega) hr hP hS hl hc hsl back
    · refine lv_tableIn (off := 502) (tgt := 534) C.1 C.2.1 dL_law_32 (by decide) (by decide) (by decide) (by decide) ?_
      exact lk_inn C (i := 3 * j) (by omega) hL (by omega) hr hP hS hl hc hsl back
    · refine lv_tableIn (off := 525) (tgt := 557) C.1 C.2.1 dL_law_32 (by decide) (by decide) (by decide) (by decide) ?_
      exact lk_feet C (i := 3 * j) (by omega) hL (by omega) hr hP hS hl hc hsl back
    · refine lv_tableIn (off := 558) (tgt := 590) C.1 C.2.1 dL_law_32 (by decide) (by decide) (by decide) (by decide) ?_
      exact lk_odds C (i := 3 * j) (by omega) hL (by omega) hr hP hS hl hc hsl back
    · refine lv_tableIn (off := 581) (tgt := 613) C.1 C.2.1 dL_law_32 (by decide) (by decide) (by decide) (by decide) ?_
      exact lk_see C (i := 3 * j) (by omega) hL (by omega) hr hP hS hl hc hsl back
    · refine lv_tableIn (off := 614) (tgt := 646) C.1 C.2.1 dL_law_32 (by decide) (by decide) (by decide) (by decide) ?_
      exact lk_went C (i := 3 * j) (by omega) hL (by omega) hr hP hS hl hc hsl back
    · refine lv_tableIn (off := 647) (tgt := 679) C.1 C.2.1 dL_law_32 (by decide) (by decide) (by decide) (by decide) ?_
      exact lk_write C (i := 3 * j) (by omega) hL (by omega) hr hP hS hl hc hsl back
    · refine lv_tableIn (off := 680) (tgt := 712) C.1 C.2.1 dL_law_32 (by decide) (by decide) (by decide) (by decide) ?_
      exact lk_tear C (i := 3 * j) (by omega) hL (by omega) hr hP hS hl hc hsl back
    · refine lv_tableIn (off := 693) (tgt := 725) C.1 C.2.1 dL_law_32 (by decide) (by decide) (by decide) (by decide) ?_
      exact lk_judge C (i := 3 * j) (by omega) hL (by omega) hr hP hS hl hc hsl back
    · refine lv_tableIn (off := 706) (tgt := 738) C.1 C.2.1 dL_law_32 (by decide) (by decide) (by decide) (by decide) ?_
      exact lk_seed C (i := 3 * j) (by omega) hL (by omega) hr hP hS hl hc hsl back
    · refine lv_tableIn (off := 729) (tgt := 761) C.1 C.2.1 dL_law_32 (by decide) (by decide) (by decide) (by decide) ?_
      exact lk_keep C (i := 3 * j) (by omega) hL (by omega) hr hP hS hl hc hsl back
    · refine lv_tableIn (off := 752) (tgt := 784) C.1 C.2.1 dL_law_32 (by decide) (by decide) (by decide) (by decide) ?_
      exact lk_goBack C (i := 3 * j) (by omega) hL (by omega) hr hP hS hl hc hsl back
    · refine lv_tableOut C.1 C.2.1 dL_law_32 (Or.inr (by rw [nI_ti (by omega)]; omega)) (tgt := 807) (by decide) ?_
      exact back w H locs (hr.next (by omega)) hP hS
end Law
