-- X8_told OneADayModel
def f8_told  (a1 : Int32)   (w : Mem) : Option (Int32 × Mem) :=
  if a1 = 0 then (some (w.1 32 0 0, w)) else (if a1 = 1 then (some (w.1 32 1 0, w)) else (if a1 = 2 then (some (w.1 32 2 0, w)) else (if a1 = 3 then (some (w.1 32 3 0, w)) else (if a1 = 4 then (some (w.1 32 7 0, w)) else (if a1 = 5 then (some (w.1 32 9 0, w)) else (if a1 = 6 then (some (w.1 32 14 0, w)) else (if a1 = 7 then (some (w.1 32 11 0, w)) else (if a1 = 8 then (some (w.1 32 11 1, w)) else (if a1 = 9 then (some (w.1 32 11 2, w)) else (if a1 = 10 then (some (w.1 32 11 3, w)) else (if a1 = 11 then (some (w.1 32 11 4, w)) else (if a1 = 12 then (some (w.1 32 11 5, w)) else (if a1 = 13 then (some (w.1 32 11 6, w)) else (if a1 = 14 then (some (w.1 32 11 9, w)) else (if a1 = 15 then (some (w.1 32 11 7, w)) else (if a1 = 16 then (some (w.1 32 37 0, w)) else (if a1 = 17 then (some (w.1 32 40 0, w)) else (if a1 = 18 then (some (w.1 32 29 0, w)) else (some ((-1000000002), w))))))))))))))))))))
set_option maxRecDepth 100000 in
set_option maxHeartbeats 4000000 in
theorem t8_told   (a1 : Int32)     (w w' : Mem) (r : Int32) (h : f8_told  a1   w = some (r, w')) : Bk yX8_told cX8_told 2 (some .int) 1 0 [(0, vR 32 0), (1, vI a1)] [] w (some (vI r)) w' := by
  unfold f8_told at h
  refine b_iload_n dX8_told_0 rfl (k := 1) rfl ?_
  by_cases c1 : a1 = 0
  · replace h := ifT c1 h
    refine b_tabIn (j := 0) (tgt := 92) (by rw [c1]; decide) dX8_told_1 (by decide) (by decide) rfl (by decide) ?_
    refine b_aload_n dX8_told_92 rfl (k := 0) rfl ?_
    refine b_getI fl8_155 ob32 rfl dX8_told_93 ?_
    obtain ⟨rfl, rfl⟩ := rtE h
    exact b_iret rfl dX8_told_96
  · replace h := ifF c1 h
    by_cases c2 : a1 = 1
    · replace h := ifT c2 h
      refine b_tabIn (j := 1) (tgt := 97) (by rw [c2]; decide) dX8_told_1 (by decide) (by decide) rfl (by decide) ?_
      refine b_aload_n dX8_told_97 rfl (k := 0) rfl ?_
      refine b_getI fl8_158 ob32 rfl dX8_told_98 ?_
      obtain ⟨rfl, rfl⟩ := rtE h
      exact b_iret rfl dX8_told_101
    · replace h := ifF c2 h
      by_cases c3 : a1 = 2
      · replace h := ifT c3 h
        refine b_tabIn (j := 2) (tgt := 102) (by rw [c3]; decide) dX8_told_1 (by decide) (by decide) rfl (by decide) ?_
        refine b_aload_n dX8_told_102 rfl (k := 0) rfl ?_
        refine b_getI fl8_161 ob32 rfl dX8_told_103 ?_
        obtain ⟨rfl, rfl⟩ := rtE h
        exact b_iret rfl dX8_told_106
      · replace h := ifF c3 h
        by_cases c4 : a1 = 3
        · replace h := ifT c4 h
          refine b_tabIn (j := 3) (tgt := 107) (by rw [c4]; decide) dX8_told_1 (by decide) (by decide) rfl (by decide) ?_
          refine b_aload_n dX8_told_107 rfl (k := 0) rfl ?_
          refine b_getI fl8_94 ob32 rfl dX8_told_108 ?_
          obtain ⟨rfl, rfl⟩ := rtE h
          exact b_iret rfl dX8_told_111
        · replace h := ifF c4 h
          by_cases c5 : a1 = 4
          · replace h := ifT c5 h
            refine b_tabIn (j := 4) (tgt := 112) (by rw [c5]; decide) dX8_told_1 (by decide) (by decide) rfl (by decide) ?_
            refine b_aload_n dX8_told_112 rfl (k := 0) rfl ?_
            refine b_getI fl8_164 ob32 rfl dX8_told_113 ?_
            obtain ⟨rfl, rfl⟩ := rtE h
            exact b_iret rfl dX8_told_116
          · replace h := ifF c5 h
            by_cases c6 : a1 = 5
            · replace h := ifT c6 h
              refine b_tabIn (j := 5) (tgt := 117) (by rw [c6]; decide) dX8_told_1 (by decide) (by decide) rfl (by decide) ?_
              refine b_aload_n dX8_told_117 rfl (k := 0) rfl ?_
              refine b_getI fl8_167 ob32 rfl dX8_told_118 ?_
              obtain ⟨rfl, rfl⟩ := rtE h
              exact b_iret rfl dX8_told_121
            · replace h := ifF c6 h
              by_cases c7 : a1 = 6
              · replace h := ifT c7 h
                refine b_tabIn (j := 6) (tgt := 122) (by rw [c7]; decide) dX8_told_1 (by decide) (by decide) rfl (by decide) ?_
                refine b_aload_n dX8_told_122 rfl (k := 0) rfl ?_
                refine b_getI fl8_104 ob32 rfl dX8_told_123 ?_
                obtain ⟨rfl, rfl⟩ := rtE h
                exact b_iret rfl dX8_told_126
              · replace h := ifF c7 h
                by_cases c8 : a1 = 7
                · replace h := ifT c8 h
                  refine b_tabIn (j := 7) (tgt := 127) (by rw [c8]; decide) dX8_told_1 (by decide) (by decide) rfl (by decide) ?_
                  refine b_aload_n dX8_told_127 rfl (k := 0) rfl ?_
                  refine b_getF fl8_25 ob32 rfl rfl dX8_told_128 ?_
                  refine b_iconst (v := 0) dX8_told_131 (by decide) ?_
                  refine b_iald ar32_11 (j0 := 0) (by decide) (by decide) dX8_told_132 ?_
                  obtain ⟨rfl, rfl⟩ := rtE h
                  exact b_iret rfl dX8_told_133
                · replace h := ifF c8 h
                  by_cases c9 : a1 = 8
                  · replace h := ifT c9 h
                    refine b_tabIn (j := 8) (tgt := 134) (by rw [c9]; decide) dX8_told_1 (by decide) (by decide) rfl (by decide) ?_
                    refine b_aload_n dX8_told_134 rfl (k := 0) rfl ?_
                    refine b_getF fl8_25 ob32 rfl rfl dX8_told_135 ?_
                    refine b_iconst (v := 1) dX8_told_138 (by decide) ?_
                    refine b_iald ar32_11 (j0 := 1) (by decide) (by decide) dX8_told_139 ?_
                    obtain ⟨rfl, rfl⟩ := rtE h
                    exact b_iret rfl dX8_told_140
                  · replace h := ifF c9 h
                    by_cases c10 : a1 = 9
                    · replace h := ifT c10 h
                      refine b_tabIn (j := 9) (tgt := 141) (by rw [c10]; decide) dX8_told_1 (by decide) (by decide) rfl (by decide) ?_
                      refine b_aload_n dX8_told_141 rfl (k := 0) rfl ?_
                      refine b_getF fl8_25 ob32 rfl rfl dX8_told_142 ?_
                      refine b_iconst (v := 2) dX8_told_145 (by decide) ?_
                      refine b_iald ar32_11 (j0 := 2) (by decide) (by decide) dX8_told_146 ?_
                      obtain ⟨rfl, rfl⟩ := rtE h
                      exact b_iret rfl dX8_told_147
                    · replace h := ifF c10 h
                      by_cases c11 : a1 = 10
                      · replace h := ifT c11 h
                        refine b_tabIn (j := 10) (tgt := 148) (by rw [c11]; decide) dX8_told_1 (by decide) (by decide) rfl (by decide) ?_
                        refine b_aload_n dX8_told_148 rfl (k := 0) rfl ?_
                        refine b_getF fl8_25 ob32 rfl rfl dX8_told_149 ?_
                        refine b_iconst (v := 3) dX8_told_152 (by decide) ?_
                        refine b_iald ar32_11 (j0 := 3) (by decide) (by decide) dX8_told_153 ?_
                        obtain ⟨rfl, rfl⟩ := rtE h
                        exact b_iret rfl dX8_told_154
                      · replace h := ifF c11 h
                        by_cases c12 : a1 = 11
                        · replace h := ifT c12 h
                          refine b_tabIn (j := 11) (tgt := 155) (by rw [c12]; decide) dX8_told_1 (by decide) (by decide) rfl (by decide) ?_
                          refine b_aload_n dX8_told_155 rfl (k := 0) rfl ?_
                          refine b_getF fl8_25 ob32 rfl rfl dX8_told_156 ?_
                          refine b_iconst (v := 4) dX8_told_159 (by decide) ?_
                          refine b_iald ar32_11 (j0 := 4) (by decide) (by decide) dX8_told_160 ?_
                          obtain ⟨rfl, rfl⟩ := rtE h
                          exact b_iret rfl dX8_told_161
                        · replace h := ifF c12 h
                          by_cases c13 : a1 = 12
                          · replace h := ifT c13 h
                            refine b_tabIn (j := 12) (tgt := 162) (by rw [c13]; decide) dX8_told_1 (by decide) (by decide) rfl (by decide) ?_
                            refine b_aload_n dX8_told_162 rfl (k := 0) rfl ?_
                            refine b_getF fl8_25 ob32 rfl rfl dX8_told_163 ?_
                            refine b_iconst (v := 5) dX8_told_166 (by decide) ?_
                            refine b_iald ar32_11 (j0 := 5) (by decide) (by decide) dX8_told_167 ?_
                            obtain ⟨rfl, rfl⟩ := rtE h
                            exact b_iret rfl dX8_told_168
                          · replace h := ifF c13 h
                            by_cases c14 : a1 = 13
                            · replace h := ifT c14 h
                              refine b_tabIn (j := 13) (tgt := 169) (by rw [c14]; decide) dX8_told_1 (by decide) (by decide) rfl (by decide) ?_
                              refine b_aload_n dX8_told_169 rfl (k := 0) rfl ?_
                              refine b_getF fl8_25 ob32 rfl rfl dX8_told_170 ?_
                              refine b_bipush (v := 6) dX8_told_173 (by decide) ?_
                              refine b_iald ar32_11 (j0 := 6) (by decide) (by decide) dX8_told_175 ?_
                              obtain ⟨rfl, rfl⟩ := rtE h
                              exact b_iret rfl dX8_told_176
                            · replace h := ifF c14 h
                              by_cases c15 : a1 = 14
                              · replace h := ifT c15 h
                                refine b_tabIn (j := 14) (tgt := 177) (by rw [c15]; decide) dX8_told_1 (by decide) (by decide) rfl (by decide) ?_
                                refine b_aload_n dX8_told_177 rfl (k := 0) rfl ?_
                                refine b_getF fl8_25 ob32 rfl rfl dX8_told_178 ?_
                                refine b_bipush (v := 9) dX8_told_181 (by decide) ?_
                                refine b_iald ar32_11 (j0 := 9) (by decide) (by decide) dX8_told_183 ?_
                                obtain ⟨rfl, rfl⟩ := rtE h
                                exact b_iret rfl dX8_told_184
                              · replace h := ifF c15 h
                                by_cases c16 : a1 = 15
                                · replace h := ifT c16 h
                                  refine b_tabIn (j := 15) (tgt := 185) (by rw [c16]; decide) dX8_told_1 (by decide) (by decide) rfl (by decide) ?_
                                  refine b_aload_n dX8_told_185 rfl (k := 0) rfl ?_
                                  refine b_getF fl8_25 ob32 rfl rfl dX8_told_186 ?_
                                  refine b_bipush (v := 7) dX8_told_189 (by decide) ?_
                                  refine b_iald ar32_11 (j0 := 7) (by decide) (by decide) dX8_told_191 ?_
                                  obtain ⟨rfl, rfl⟩ := rtE h
                                  exact b_iret rfl dX8_told_192
                                · replace h := ifF c16 h
                                  by_cases c17 : a1 = 16
                                  · replace h := ifT c17 h
                                    refine b_tabIn (j := 16) (tgt := 193) (by rw [c17]; decide) dX8_told_1 (by decide) (by decide) rfl (by decide) ?_
                                    refine b_aload_n dX8_told_193 rfl (k := 0) rfl ?_
                                    refine b_getI fl8_176 ob32 rfl dX8_told_194 ?_
                                    obtain ⟨rfl, rfl⟩ := rtE h
                                    exact b_iret rfl dX8_told_197
                                  · replace h := ifF c17 h
                                    by_cases c18 : a1 = 17
                                    · replace h := ifT c18 h
                                      refine b_tabIn (j := 17) (tgt := 198) (by rw [c18]; decide) dX8_told_1 (by decide) (by decide) rfl (by decide) ?_
                                      refine b_aload_n dX8_told_198 rfl (k := 0) rfl ?_
                                      refine b_getI fl8_179 ob32 rfl dX8_told_199 ?_
                                      obtain ⟨rfl, rfl⟩ := rtE h
                                      exact b_iret rfl dX8_told_202
                                    · replace h := ifF c18 h
                                      by_cases c19 : a1 = 18
                                      · replace h := ifT c19 h
                                        refine b_tabIn (j := 18) (tgt := 203) (by rw [c19]; decide) dX8_told_1 (by decide) (by decide) rfl (by decide) ?_
                                        refine b_aload_n dX8_told_203 rfl (k := 0) rfl ?_
                                        refine b_getI fl8_182 ob32 rfl dX8_told_204 ?_
                                        obtain ⟨rfl, rfl⟩ := rtE h
                                        exact b_iret rfl dX8_told_207
                                      · replace h := ifF c19 h
                                        have nc1 := lv_neT (a := 0) c1 (by decide)
                                        have nc2 := lv_neT (a := 1) c2 (by decide)
                                        have nc3 := lv_neT (a := 2) c3 (by decide)
                                        have nc4 := lv_neT (a := 3) c4 (by decide)
                                        have nc5 := lv_neT (a := 4) c5 (by decide)
                                        have nc6 := lv_neT (a := 5) c6 (by decide)
                                        have nc7 := lv_neT (a := 6) c7 (by decide)
                                        have nc8 := lv_neT (a := 7) c8 (by decide)
                                        have nc9 := lv_neT (a := 8) c9 (by decide)
                                        have nc10 := lv_neT (a := 9) c10 (by decide)
                                        have nc11 := lv_neT (a := 10) c11 (by decide)
                                        have nc12 := lv_neT (a := 11) c12 (by decide)
                                        have nc13 := lv_neT (a := 12) c13 (by decide)
                                        have nc14 := lv_neT (a := 13) c14 (by decide)
                                        have nc15 := lv_neT (a := 14) c15 (by decide)
                                        have nc16 := lv_neT (a := 15) c16 (by decide)
                                        have nc17 := lv_neT (a := 16) c17 (by decide)
                                        have nc18 := lv_neT (a := 17) c18 (by decide)
                                        have nc19 := lv_neT (a := 18) c19 (by decide)
                                        refine b_tabOut (tgt := 208) dX8_told_1 (by omega) (by decide) ?_
                                        refine b_ldc dX8_told_208 kk8_103 ?_
                                        obtain ⟨rfl, rfl⟩ := rtE h
                                        exact b_iret rfl dX8_told_210
theorem s8_told (a1 : Int32)  (w w' : Mem) (r : Int32) (h : f8_told  a1  w = some (r, w')) : Sp yX8_told cX8_told 2 (some .int) 1 [vR 32 0, vI a1] w (some (vI r)) w' := sp_of (by decide) (fun _ => rfl) (fun _ => Nat.le_of_ble_eq_true rfl) (t8_told  a1   _ _ _ h)
-- X8_village OneADayModel
def f8_village  (a1 : Int32) (a2 : Int32)   (w : Mem) : Option (Int32 × Mem) :=
  bndO (f8_isVillage a1 w) fun r2 w1 => if r2 = 0 then (some ((-1000000001), w1)) else (if a2 = 0 then (if a1 < 0 ∨ 8 ≤ Int32.toNatClampNeg a1 then none else some (w1.1 32 4 (Int32.toNatClampNeg a1), w1)) else (if a2 = 1 then (if a1 < 0 ∨ 8 ≤ Int32.toNatClampNeg a1 then none else some (w1.1 32 5 (Int32.toNatClampNeg a1), w1)) else (if a2 = 2 then (if (10 + a1) < 0 ∨ 103 ≤ Int32.toNatClampNeg (10 + a1) then none else some (w1.1 32 11 (Int32.toNatClampNeg (10 + a1)), w1)) else (if a2 = 3 then (if a1 < 0 ∨ 8 ≤ Int32.toNatClampNeg a1 then none else some (w1.1 32 6 (Int32.toNatClampNeg a1), w1)) else (if a2 = 4 then (some ((jshr (w1.1 32 11 8) a1) &&& 1, w1)) else (if a2 = 5 then (if (18 + a1) < 0 ∨ 103 ≤ Int32.toNatClampNeg (18 + a1) then none else some (w1.1 32 11 (Int32.toNatClampNeg (18 + a1)), w1)) else (some ((-1000000002), w1))))))))
set_option maxRecDepth 100000 in
set_option maxHeartbeats 4000000 in
theorem t8_village   (a1 : Int32) (a2 : Int32)     (w w' : Mem) (r : Int32) (h : f8_village  a1 a2   w = some (r, w')) : Bk yX8_village cX8_village 3 (some .int) 3 0 [(0, vR 32 0), (1, vI a1), (2, vI a2)] [] w (some (vI r)) w' := by
  unfold f8_village at h
  refine b_aload_n dX8_village_0 rfl (k := 0) rfl ?_
  refine b_iload_n dX8_village_1 rfl (k := 1) rfl ?_
  obtain ⟨r2, w1, hw1, h⟩ := bdO h
  refine b_callVi mv8_isVillage ml8_185 ob32 (s8_isVillage a1  _ _ _ hw1) rfl (by decide) (by decide) (Nat.le_of_ble_eq_true rfl) rfl dX8_village_2 ?_
  refine b_ifne (tgt := 11) dX8_village_5 (by decide) (fun c3 => ?_) (fun c3 => ?_)
  · replace h := ifF c3 h
    refine b_iload_n dX8_village_11 rfl (k := 2) rfl ?_
    by_cases c4 : a2 = 0
    · replace h := ifT c4 h
      refine b_tabIn (j := 0) (tgt := 52) (by rw [c4]; decide) dX8_village_12 (by decide) (by decide) rfl (by decide) ?_
      refine b_aload_n dX8_village_52 rfl (k := 0) rfl ?_
      refine b_getF fl8_7 ob32 rfl rfl dX8_village_53 ?_
      refine b_iload_n dX8_village_56 rfl (k := 1) rfl ?_
      obtain ⟨g5, h⟩ := gdE h
      refine b_iald ar32_4 g5 rfl dX8_village_57 ?_
      obtain ⟨rfl, rfl⟩ := rtE h
      exact b_iret rfl dX8_village_58
    · replace h := ifF c4 h
      by_cases c6 : a2 = 1
      · replace h := ifT c6 h
        refine b_tabIn (j := 1) (tgt := 59) (by rw [c6]; decide) dX8_village_12 (by decide) (by decide) rfl (by decide) ?_
        refine b_aload_n dX8_village_59 rfl (k := 0) rfl ?_
        refine b_getF fl8_13 ob32 rfl rfl dX8_village_60 ?_
        refine b_iload_n dX8_village_63 rfl (k := 1) rfl ?_
        obtain ⟨g7, h⟩ := gdE h
        refine b_iald ar32_5 g7 rfl dX8_village_64 ?_
        obtain ⟨rfl, rfl⟩ := rtE h
        exact b_iret rfl dX8_village_65
      · replace h := ifF c6 h
        by_cases c8 : a2 = 2
        · replace h := ifT c8 h
          refine b_tabIn (j := 2) (tgt := 66) (by rw [c8]; decide) dX8_village_12 (by decide) (by decide) rfl (by decide) ?_
          refine b_aload_n dX8_village_66 rfl (k := 0) rfl ?_
          refine b_getF fl8_25 ob32 rfl rfl dX8_village_67 ?_
          refine b_bipush (v := 10) dX8_village_70 (by decide) ?_
          refine b_iload_n dX8_village_72 rfl (k := 1) rfl ?_
          refine b_iadd dX8_village_73 ?_
          obtain ⟨g9, h⟩ := gdE h
          refine b_iald ar32_11 g9 rfl dX8_village_74 ?_
          obtain ⟨rfl, rfl⟩ := rtE h
          exact b_iret rfl dX8_village_75
        · replace h := ifF c8 h
          by_cases c10 : a2 = 3
          · replace h := ifT c10 h
            refine b_tabIn (j := 3) (tgt := 76) (by rw [c10]; decide) dX8_village_12 (by decide) (by decide) rfl (by decide) ?_
            refine b_aload_n dX8_village_76 rfl (k := 0) rfl ?_
            refine b_getF fl8_16 ob32 rfl rfl dX8_village_77 ?_
            refine b_iload_n dX8_village_80 rfl (k := 1) rfl ?_
            obtain ⟨g11, h⟩ := gdE h
            refine b_iald ar32_6 g11 rfl dX8_village_81 ?_
            obtain ⟨rfl, rfl⟩ := rtE h
            exact b_iret rfl dX8_village_82
          · replace h := ifF c10 h
            by_cases c12 : a2 = 4
            · replace h := ifT c12 h
              refine b_tabIn (j := 4) (tgt := 83) (by rw [c12]; decide) dX8_village_12 (by decide) (by decide) rfl (by decide) ?_
              refine b_aload_n dX8_village_83 rfl (k := 0) rfl ?_
              refine b_getF fl8_25 ob32 rfl rfl dX8_village_84 ?_
              refine b_bipush (v := 8) dX8_village_87 (by decide) ?_
              refine b_iald ar32_11 (j0 := 8) (by decide) (by decide) dX8_village_89 ?_
              refine b_iload_n dX8_village_90 rfl (k := 1) rfl ?_
              refine b_ishr dX8_village_91 ?_
              refine b_iconst (v := 1) dX8_village_92 (by decide) ?_
              refine b_iand dX8_village_93 ?_
              obtain ⟨rfl, rfl⟩ := rtE h
              exact b_iret rfl dX8_village_94
            · replace h := ifF c12 h
              by_cases c13 : a2 = 5
              · replace h := ifT c13 h
                refine b_tabIn (j := 5) (tgt := 95) (by rw [c13]; decide) dX8_village_12 (by decide) (by decide) rfl (by decide) ?_
                refine b_aload_n dX8_village_95 rfl (k := 0) rfl ?_
                refine b_getF fl8_25 ob32 rfl rfl dX8_village_96 ?_
                refine b_bipush (v := 18) dX8_village_99 (by decide) ?_
                refine b_iload_n dX8_village_101 rfl (k := 1) rfl ?_
                refine b_iadd dX8_village_102 ?_
                obtain ⟨g14, h⟩ := gdE h
                refine b_iald ar32_11 g14 rfl dX8_village_103 ?_
                obtain ⟨rfl, rfl⟩ := rtE h
                exact b_iret rfl dX8_village_104
              · replace h := ifF c13 h
                have nc4 := lv_neT (a := 0) c4 (by decide)
                have nc6 := lv_neT (a := 1) c6 (by decide)
                have nc8 := lv_neT (a := 2) c8 (by decide)
                have nc10 := lv_neT (a := 3) c10 (by decide)
                have nc12 := lv_neT (a := 4) c12 (by decide)
                have nc13 := lv_neT (a := 5) c13 (by decide)
                refine b_tabOut (tgt := 105) dX8_village_12 (by omega) (by decide) ?_
                refine b_ldc dX8_village_105 kk8_103 ?_
                obtain ⟨rfl, rfl⟩ := rtE h
                exact b_iret rfl dX8_village_107
  · replace h := ifT c3 h
    refine b_ldc dX8_village_8 kk8_189 ?_
    obtain ⟨rfl, rfl⟩ := rtE h
    exact b_iret rfl dX8_village_10
theorem s8_village (a1 : Int32) (a2 : Int32)  (w w' : Mem) (r : Int32) (h : f8_village  a1 a2  w = some (r, w')) : Sp yX8_village cX8_village 3 (some .int) 3 [vR 32 0, vI a1, vI a2] w (some (vI r)) w' := sp_of (by decide) (fun _ => rfl) (fun _ => Nat.le_of_ble_eq_true rfl) (t8_village  a1 a2   _ _ _ h)
-- X8_isFeast OneADayModel
def f8_isFeast_4  (a1 : Int32)  : Nat → Int32 → Int32 → Mem → Option (Int32 × Mem)
  | 0, _, _, _ => none
  | n + 1, x2, x3, w =>
  if (w.1 32 7 0) ≤ x3 then (if ¬ x2 &&& 1 = x2 then none else some (x2, w)) else (if x2 = 0 then (if x3 < 0 ∨ 8 ≤ Int32.toNatClampNeg x3 then none else if (w.1 32 8 (Int32.toNatClampNeg x3)) = a1 then (bnd (x3 + 1) fun y8 => f8_isFeast_4  a1  n 1 y8 w) else (bnd (x3 + 1) fun y7 => f8_isFeast_4  a1  n 0 y7 w)) else (bnd (x3 + 1) fun y4 => f8_isFeast_4  a1  n 1 y4 w))
set_option maxRecDepth 100000 in
set_option maxHeartbeats 4000000 in
theorem t8_isFeast_4   (a1 : Int32)    : ∀ (n : Nat) (x2 : Int32) (x3 : Int32) (w w' : Mem) (r : Int32), f8_isFeast_4  a1  n x2 x3 w = some (r, w') → Bk yX8_isFeast cX8_isFeast 4 (some .boolean) 1 4 [(0, vR 32 0), (1, vI a1), (2, vI x2), (3, vI x3)] [] w (some (vI r)) w' := by
  intro n
  induction n with
  | zero =>
    intro x2 x3 w w' r h
    cases (show (none : Option (Int32 × Mem)) = some _ from h)
  | succ n ih =>
    intro x2 x3 w w' r h
    rw [f8_isFeast_4] at h
    refine b_iload_n dX8_isFeast_4 rfl (k := 3) rfl ?_
    refine b_aload_n dX8_isFeast_5 rfl (k := 0) rfl ?_
    refine b_getI fl8_164 ob32 rfl dX8_isFeast_6 ?_
    refine b_icge (tgt := 38) dX8_isFeast_9 (by decide) (fun c1 => ?_) (fun c1 => ?_)
    · replace h := ifT c1 h
      refine b_iload_n dX8_isFeast_38 rfl (k := 2) rfl ?_
      obtain ⟨g2, h⟩ := gdE h
      obtain ⟨rfl, rfl⟩ := rtE h
      exact b_zret rfl (Decidable.not_not.mp g2) dX8_isFeast_39
    · replace h := ifF c1 h
      refine b_iload_n dX8_isFeast_12 rfl (k := 2) rfl ?_
      refine b_ifne (tgt := 26) dX8_isFeast_13 (by decide) (fun c3 => ?_) (fun c3 => ?_)
      · replace h := ifF c3 h
        refine b_iconst (v := 1) dX8_isFeast_26 (by decide) ?_
        refine b_goto (tgt := 31) dX8_isFeast_27 (by decide) ?_
        refine b_istore_n (lv' := [(2, vI 1), (0, vR 32 0), (1, vI a1), (3, vI x3)]) dX8_isFeast_31 rfl (by decide) rfl ?_
        obtain ⟨y4, ey4, h⟩ := nmE h
        refine b_iinc (v := y4) (lv' := [(3, vI y4), (2, vI 1), (0, vR 32 0), (1, vI a1)]) dX8_isFeast_32 (k := 3) rfl ey4.symm (by decide) rfl ?_
        refine b_goto (tgt := 4) dX8_isFeast_35 (by decide) ?_
        refine b_sub [2, 3, 1, 0] rfl ?_
        exact ih 1 y4 _ _ _ h
      · replace h := ifT c3 h
        refine b_aload_n dX8_isFeast_16 rfl (k := 0) rfl ?_
        refine b_getF fl8_19 ob32 rfl rfl dX8_isFeast_17 ?_
        refine b_iload_n dX8_isFeast_20 rfl (k := 3) rfl ?_
        obtain ⟨g5, h⟩ := gdE h
        refine b_iald ar32_8 g5 rfl dX8_isFeast_21 ?_
        refine b_iload_n dX8_isFeast_22 rfl (k := 1) rfl ?_
        refine b_icne (tgt := 30) dX8_isFeast_23 (by decide) (fun c6 => ?_) (fun c6 => ?_)
        · replace h := ifF c6 h
          refine b_iconst (v := 0) dX8_isFeast_30 (by decide) ?_
          refine b_istore_n (lv' := [(2, vI 0), (0, vR 32 0), (1, vI a1), (3, vI x3)]) dX8_isFeast_31 rfl (by decide) rfl ?_
          obtain ⟨y7, ey7, h⟩ := nmE h
          refine b_iinc (v := y7) (lv' := [(3, vI y7), (2, vI 0), (0, vR 32 0), (1, vI a1)]) dX8_isFeast_32 (k := 3) rfl ey7.symm (by decide) rfl ?_
          refine b_goto (tgt := 4) dX8_isFeast_35 (by decide) ?_
          refine b_sub [2, 3, 1, 0] rfl ?_
          exact ih 0 y7 _ _ _ h
        · replace h := ifT c6 h
          refine b_iconst (v := 1) dX8_isFeast_26 (by decide) ?_
          refine b_goto (tgt := 31) dX8_isFeast_27 (by decide) ?_
          refine b_istore_n (lv' := [(2, vI 1), (0, vR 32 0), (1, vI a1), (3, vI x3)]) dX8_isFeast_31 rfl (by decide) rfl ?_
          obtain ⟨y8, ey8, h⟩ := nmE h
          refine b_iinc (v := y8) (lv' := [(3, vI y8), (2, vI 1), (0, vR 32 0), (1, vI a1)]) dX8_isFeast_32 (k := 3) rfl ey8.symm (by decide) rfl ?_
          refine b_goto (tgt := 4) dX8_isFeast_35 (by decide) ?_
          refine b_sub [2, 3, 1, 0] rfl ?_
          exact ih 1 y8 _ _ _ h
def f8_isFeast  (a1 : Int32)   (w : Mem) : Option (Int32 × Mem) :=
  f8_isFeast_4  a1  100000 0 0 w
set_option maxRecDepth 100000 in
set_option maxHeartbeats 4000000 in
theorem t8_isFeast   (a1 : Int32)     (w w' : Mem) (r : Int32) (h : f8_isFeast  a1   w = some (r, w')) : Bk yX8_isFeast cX8_isFeast 4 (some .boolean) 1 0 [(0, vR 32 0), (1, vI a1)] [] w (some (vI r)) w' := by
  unfold f8_isFeast at h
  refine b_iconst (v := 0) dX8_isFeast_0 (by decide) ?_
  refine b_istore_n (lv' := [(2, vI 0), (0, vR 32 0), (1, vI a1)]) dX8_isFeast_1 rfl (by decide) rfl ?_
  refine b_iconst (v := 0) dX8_isFeast_2 (by decide) ?_
  refine b_istore_n (lv' := [(3, vI 0), (2, vI 0), (0, vR 32 0), (1, vI a1)]) dX8_isFeast_3 rfl (by decide) rfl ?_
  refine b_sub [2, 3, 1, 0] rfl ?_
  exact t8_isFeast_4  a1    100000 0 0 _ _ _ h
theorem s8_isFeast (a1 : Int32)  (w w' : Mem) (r : Int32) (h : f8_isFeast  a1  w = some (r, w')) : Sp yX8_isFeast cX8_isFeast 4 (some .boolean) 1 [vR 32 0, vI a1] w (some (vI r)) w' := sp_of (by decide) (fun _ => rfl) (fun _ => Nat.le_of_ble_eq_true rfl) (t8_isFeast  a1   _ _ _ h)
-- X8_isFog OneADayModel
def f8_isFog_4  (a1 : Int32)  : Nat → Int32 → Int32 → Mem → Option (Int32 × Mem)
  | 0, _, _, _ => none
  | n + 1, x2, x3, w =>
  if (w.1 32 9 0) ≤ x3 then (if ¬ x2 &&& 1 = x2 then none else some (x2, w)) else (if x2 = 0 then (if x3 < 0 ∨ 8 ≤ Int32.toNatClampNeg x3 then none else if (w.1 32 10 (Int32.toNatClampNeg x3)) = a1 then (bnd (x3 + 1) fun y8 => f8_isFog_4  a1  n 1 y8 w) else (bnd (x3 + 1) fun y7 => f8_isFog_4  a1  n 0 y7 w)) else (bnd (x3 + 1) fun y4 => f8_isFog_4  a1  n 1 y4 w))
set_option maxRecDepth 100000 in
set_option maxHeartbeats 4000000 in
theorem t8_isFog_4   (a1 : Int32)    : ∀ (n : Nat) (x2 : Int32) (x3 : Int32) (w w' : Mem) (r : Int32), f8_isFog_4  a1  n x2 x3 w = some (r, w') → Bk yX8_isFog cX8_isFog 4 (some .boolean) 1 4 [(0, vR 32 0), (1, vI a1), (2, vI x2), (3, vI x3)] [] w (some (vI r)) w' := by
  intro n
  induction n with
  | zero =>
    intro x2 x3 w w' r h
    cases (show (none : Option (Int32 × Mem)) = some _ from h)
  | succ n ih =>
    intro x2 x3 w w' r h
    rw [f8_isFog_4] at h
    refine b_iload_n dX8_isFog_4 rfl (k := 3) rfl ?_
    refine b_aload_n dX8_isFog_5 rfl (k := 0) rfl ?_
    refine b_getI fl8_167 ob32 rfl dX8_isFog_6 ?_
    refine b_icge (tgt := 38) dX8_isFog_9 (by decide) (fun c1 => ?_) (fun c1 => ?_)
    · replace h := ifT c1 h
      refine b_iload_n dX8_isFog_38 rfl (k := 2) rfl ?_
      obtain ⟨g2, h⟩ := gdE h
      obtain ⟨rfl, rfl⟩ := rtE h
      exact b_zret rfl (Decidable.not_not.mp g2) dX8_isFog_39
    · replace h := ifF c1 h
      refine b_iload_n dX8_isFog_12 rfl (k := 2) rfl ?_
      refine b_ifne (tgt := 26) dX8_isFog_13 (by decide) (fun c3 => ?_) (fun c3 => ?_)
      · replace h := ifF c3 h
        refine b_iconst (v := 1) dX8_isFog_26 (by decide) ?_
        refine b_goto (tgt := 31) dX8_isFog_27 (by decide) ?_
        refine b_istore_n (lv' := [(2, vI 1), (0, vR 32 0), (1, vI a1), (3, vI x3)]) dX8_isFog_31 rfl (by decide) rfl ?_
        obtain ⟨y4, ey4, h⟩ := nmE h
        refine b_iinc (v := y4) (lv' := [(3, vI y4), (2, vI 1), (0, vR 32 0), (1, vI a1)]) dX8_isFog_32 (k := 3) rfl ey4.symm (by decide) rfl ?_
        refine b_goto (tgt := 4) dX8_isFog_35 (by decide) ?_
        refine b_sub [2, 3, 1, 0] rfl ?_
        exact ih 1 y4 _ _ _ h
      · replace h := ifT c3 h
        refine b_aload_n dX8_isFog_16 rfl (k := 0) rfl ?_
        refine b_getF fl8_22 ob32 rfl rfl dX8_isFog_17 ?_
        refine b_iload_n dX8_isFog_20 rfl (k := 3) rfl ?_
        obtain ⟨g5, h⟩ := gdE h
        refine b_iald ar32_10 g5 rfl dX8_isFog_21 ?_
        refine b_iload_n dX8_isFog_22 rfl (k := 1) rfl ?_
        refine b_icne (tgt := 30) dX8_isFog_23 (by decide) (fun c6 => ?_) (fun c6 => ?_)
        · replace h := ifF c6 h
          refine b_iconst (v := 0) dX8_isFog_30 (by decide) ?_
          refine b_istore_n (lv' := [(2, vI 0), (0, vR 32 0), (1, vI a1), (3, vI x3)]) dX8_isFog_31 rfl (by decide) rfl ?_
          obtain ⟨y7, ey7, h⟩ := nmE h
          refine b_iinc (v := y7) (lv' := [(3, vI y7), (2, vI 0), (0, vR 32 0), (1, vI a1)]) dX8_isFog_32 (k := 3) rfl ey7.symm (by decide) rfl ?_
          refine b_goto (tgt := 4) dX8_isFog_35 (by decide) ?_
          refine b_sub [2, 3, 1, 0] rfl ?_
          exact ih 0 y7 _ _ _ h
        · replace h := ifT c6 h
          refine b_iconst (v := 1) dX8_isFog_26 (by decide) ?_
          refine b_goto (tgt := 31) dX8_isFog_27 (by decide) ?_
          refine b_istore_n (lv' := [(2, vI 1), (0, vR 32 0), (1, vI a1), (3, vI x3)]) dX8_isFog_31 rfl (by decide) rfl ?_
          obtain ⟨y8, ey8, h⟩ := nmE h
          refine b_iinc (v := y8) (lv' := [(3, vI y8), (2, vI 1), (0, vR 32 0), (1, vI a1)]) dX8_isFog_32 (k := 3) rfl ey8.symm (by decide) rfl ?_
          refine b_goto (tgt := 4) dX8_isFog_35 (by decide) ?_
          refine b_sub [2, 3, 1, 0] rfl ?_
          exact ih 1 y8 _ _ _ h
def f8_isFog  (a1 : Int32)   (w : Mem) : Option (Int32 × Mem) :=
  f8_isFog_4  a1  100000 0 0 w
set_option maxRecDepth 100000 in
set_option maxHeartbeats 4000000 in
theorem t8_isFog   (a1 : Int32)     (w w' : Mem) (r : Int32) (h : f8_isFog  a1   w = some (r, w')) : Bk yX8_isFog cX8_isFog 4 (some .boolean) 1 0 [(0, vR 32 0), (1, vI a1)] [] w (some (vI r)) w' := by
  unfold f8_isFog at h
  refine b_iconst (v := 0) dX8_isFog_0 (by decide) ?_
  refine b_istore_n (lv' := [(2, vI 0), (0, vR 32 0), (1, vI a1)]) dX8_isFog_1 rfl (by decide) rfl ?_
  refine b_iconst (v := 0) dX8_isFog_2 (by decide) ?_
  refine b_istore_n (lv' := [(3, vI 0), (2, vI 0), (0, vR 32 0), (1, vI a1)]) dX8_isFog_3 rfl (by decide) rfl ?_
  refine b_sub [2, 3, 1, 0] rfl ?_
  exact t8_isFog_4  a1    100000 0 0 _ _ _ h
theorem s8_isFog (a1 : Int32)  (w w' : Mem) (r : Int32) (h : f8_isFog  a1  w = some (r, w')) : Sp yX8_isFog cX8_isFog 4 (some .boolean) 1 [vR 32 0, vI a1] w (some (vI r)) w' := sp_of (by decide) (fun _ => rfl) (fun _ => Nat.le_of_ble_eq_true rfl) (t8_isFog  a1   _ _ _ h)
-- X8_goesBy OneADayModel
def f8_goesBy_25  (a1 : Int32) (a2 : Int32) (a3 : Int32)  (s0 : Int32) (w : Mem) : Option (Int32 × Mem) :=
  if s0 = 0 then (some (0, w)) else (if a1 < 0 ∨ 8 ≤ Int32.toNatClampNeg a1 then none else if a2 < (w.1 32 4 (Int32.toNatClampNeg a1)) then (some (0, w)) else (if a1 < 0 ∨ 8 ≤ Int32.toNatClampNeg a1 then none else if (w.1 32 4 (Int32.toNatClampNeg a1)) = 0 then (some (1, w)) else (bndO (f8_isFog a2 w) fun r7 w6 => if r7 = 0 then (some (1, w6)) else (some (0, w6)))))
set_option maxRecDepth 100000 in
set_option maxHeartbeats 4000000 in
theorem t8_goesBy_25   (a1 : Int32) (a2 : Int32) (a3 : Int32)    (s0 : Int32) (w w' : Mem) (r : Int32) (h : f8_goesBy_25  a1 a2 a3  s0 w = some (r, w')) : Bk yX8_goesBy cX8_goesBy 5 (some .boolean) 2 25 [(0, vR 32 0), (1, vI a1), (2, vI a2)] [vI s0] w (some (vI r)) w' := by
  unfold f8_goesBy_25 at h
  refine b_istore (lv' := [(4, vI s0), (0, vR 32 0), (1, vI a1), (2, vI a2)]) dX8_goesBy_25 (by decide) rfl ?_
  refine b_iload dX8_goesBy_27 (k := 0) rfl ?_
  refine b_ifeq (tgt := 63) dX8_goesBy_29 (by decide) (fun c1 => ?_) (fun c1 => ?_)
  · replace h := ifT c1 h
    refine b_iconst (v := 0) dX8_goesBy_63 (by decide) ?_
    obtain ⟨rfl, rfl⟩ := rtE h
    exact b_zret rfl (by decide) dX8_goesBy_64
  · replace h := ifF c1 h
    refine b_iload_n dX8_goesBy_32 rfl (k := 3) rfl ?_
    refine b_aload_n dX8_goesBy_33 rfl (k := 1) rfl ?_
    refine b_getF fl8_7 ob32 rfl rfl dX8_goesBy_34 ?_
    refine b_iload_n dX8_goesBy_37 rfl (k := 2) rfl ?_
    obtain ⟨g2, h⟩ := gdE h
    refine b_iald ar32_4 g2 rfl dX8_goesBy_38 ?_
    refine b_iclt (tgt := 63) dX8_goesBy_39 (by decide) (fun c3 => ?_) (fun c3 => ?_)
    · replace h := ifT c3 h
      refine b_iconst (v := 0) dX8_goesBy_63 (by decide) ?_
      obtain ⟨rfl, rfl⟩ := rtE h
      exact b_zret rfl (by decide) dX8_goesBy_64
    · replace h := ifF c3 h
      refine b_aload_n dX8_goesBy_42 rfl (k := 1) rfl ?_
      refine b_getF fl8_7 ob32 rfl rfl dX8_goesBy_43 ?_
      refine b_iload_n dX8_goesBy_46 rfl (k := 2) rfl ?_
      obtain ⟨g4, h⟩ := gdE h
      refine b_iald ar32_4 g4 rfl dX8_goesBy_47 ?_
      refine b_ifeq (tgt := 59) dX8_goesBy_48 (by decide) (fun c5 => ?_) (fun c5 => ?_)
      · replace h := ifT c5 h
        refine b_iconst (v := 1) dX8_goesBy_59 (by decide) ?_
        refine b_goto (tgt := 64) dX8_goesBy_60 (by decide) ?_
        obtain ⟨rfl, rfl⟩ := rtE h
        exact b_zret rfl (by decide) dX8_goesBy_64
      · replace h := ifF c5 h
        refine b_aload_n dX8_goesBy_51 rfl (k := 1) rfl ?_
        refine b_iload_n dX8_goesBy_52 rfl (k := 3) rfl ?_
        obtain ⟨r7, w6, hw6, h⟩ := bdO h
        refine b_callVi mv8_isFog ml8_193 ob32 (s8_isFog a2  _ _ _ hw6) rfl (by decide) (by decide) (Nat.le_of_ble_eq_true rfl) rfl dX8_goesBy_53 ?_
        refine b_ifne (tgt := 63) dX8_goesBy_56 (by decide) (fun c8 => ?_) (fun c8 => ?_)
        · replace h := ifF c8 h
          refine b_iconst (v := 0) dX8_goesBy_63 (by decide) ?_
          obtain ⟨rfl, rfl⟩ := rtE h
          exact b_zret rfl (by decide) dX8_goesBy_64
        · replace h := ifT c8 h
          refine b_iconst (v := 1) dX8_goesBy_59 (by decide) ?_
          refine b_goto (tgt := 64) dX8_goesBy_60 (by decide) ?_
          obtain ⟨rfl, rfl⟩ := rtE h
          exact b_zret rfl (by decide) dX8_goesBy_64
def f8_goesBy  (a1 : Int32) (a2 : Int32) (a3 : Int32)   (w : Mem) : Option (Int32 × Mem) :=
  if a1 < 0 ∨ 8 ≤ Int32.toNatClampNeg a1 then none else if w.1 32 5 (Int32.toNatClampNeg a1) = 0 then none else if (jrem a2 (w.1 32 5 (Int32.toNatClampNeg a1))) = a3 then (f8_goesBy_25  a1 a2 a3  1 w) else (bndO (f8_isFeast a2 w) fun r5 w4 => if r5 = 0 then (f8_goesBy_25  a1 a2 a3  0 w4) else (f8_goesBy_25  a1 a2 a3  1 w4))
set_option maxRecDepth 100000 in
set_option maxHeartbeats 4000000 in
theorem t8_goesBy   (a1 : Int32) (a2 : Int32) (a3 : Int32)     (w w' : Mem) (r : Int32) (h : f8_goesBy  a1 a2 a3   w = some (r, w')) : Bk yX8_goesBy cX8_goesBy 5 (some .boolean) 2 0 [(0, vR 32 0), (1, vI a1), (2, vI a2), (3, vI a3)] [] w (some (vI r)) w' := by
  unfold f8_goesBy at h
  refine b_iload_n dX8_goesBy_0 rfl (k := 2) rfl ?_
  refine b_aload_n dX8_goesBy_1 rfl (k := 0) rfl ?_
  refine b_getF fl8_13 ob32 rfl rfl dX8_goesBy_2 ?_
  refine b_iload_n dX8_goesBy_5 rfl (k := 1) rfl ?_
  obtain ⟨g1, h⟩ := gdE h
  refine b_iald ar32_5 g1 rfl dX8_goesBy_6 ?_
  obtain ⟨g2, h⟩ := gdE h
  refine b_irem dX8_goesBy_7 g2 ?_
  refine b_iload_n dX8_goesBy_8 rfl (k := 3) rfl ?_
  refine b_iceq (tgt := 20) dX8_goesBy_9 (by decide) (fun c3 => ?_) (fun c3 => ?_)
  · replace h := ifT c3 h
    refine b_iconst (v := 1) dX8_goesBy_20 (by decide) ?_
    refine b_goto (tgt := 25) dX8_goesBy_21 (by decide) ?_
    refine b_sub [0, 1, 2] rfl ?_
    exact t8_goesBy_25  a1 a2 a3    1 _ _ _ h
  · replace h := ifF c3 h
    refine b_aload_n dX8_goesBy_12 rfl (k := 0) rfl ?_
    refine b_iload_n dX8_goesBy_13 rfl (k := 2) rfl ?_
    obtain ⟨r5, w4, hw4, h⟩ := bdO h
    refine b_callVi mv8_isFeast ml8_190 ob32 (s8_isFeast a2  _ _ _ hw4) rfl (by decide) (by decide) (Nat.le_of_ble_eq_true rfl) rfl dX8_goesBy_14 ?_
    refine b_ifeq (tgt := 24) dX8_goesBy_17 (by decide) (fun c6 => ?_) (fun c6 => ?_)
    · replace h := ifT c6 h
      refine b_iconst (v := 0) dX8_goesBy_24 (by decide) ?_
      refine b_sub [0, 1, 2] rfl ?_
      exact t8_goesBy_25  a1 a2 a3    0 _ _ _ h
    · replace h := ifF c6 h
      refine b_iconst (v := 1) dX8_goesBy_20 (by decide) ?_
      refine b_goto (tgt := 25) dX8_goesBy_21 (by decide) ?_
      refine b_sub [0, 1, 2] rfl ?_
      exact t8_goesBy_25  a1 a2 a3    1 _ _ _ h
theorem s8_goesBy (a1 : Int32) (a2 : Int32) (a3 : Int32)  (w w' : Mem) (r : Int32) (h : f8_goesBy  a1 a2 a3  w = some (r, w')) : Sp yX8_goesBy cX8_goesBy 5 (some .boolean) 2 [vR 32 0, vI a1, vI a2, vI a3] w (some (vI r)) w' := sp_of (by decide) (fun _ => rfl) (fun _ => Nat.le_of_ble_eq_true rfl) (t8_goesBy  a1 a2 a3   _ _ _ h)
-- X8_goers OneADayModel
def f8_goers_4  (a1 : Int32)  : Nat → Int32 → Int32 → Mem → Option (Int32 × Mem)
  | 0, _, _, _ => none
  | n + 1, x2, x3, w =>
  if (w.1 32 3 0) ≤ x3 then (some (x2, w)) else (bndO (f8_has (w.1 32 11 8) x3 w) fun r3 w2 => if r3 = 0 then (if (10 + x3) < 0 ∨ 103 ≤ Int32.toNatClampNeg (10 + x3) then none else bndO (f8_goesBy x3 a1 (w2.1 32 11 (Int32.toNatClampNeg (10 + x3))) w2) fun r9 w8 => if r9 = 0 then (bnd (x2 ||| 0) fun y11 => bnd (x3 + 1) fun y12 => f8_goers_4  a1  n y11 y12 w8) else (bnd (x2 ||| (jshl 1 x3)) fun y13 => bnd (x3 + 1) fun y14 => f8_goers_4  a1  n y13 y14 w8)) else (bnd (x2 ||| 0) fun y5 => bnd (x3 + 1) fun y6 => f8_goers_4  a1  n y5 y6 w2))
set_option maxRecDepth 100000 in
set_option maxHeartbeats 4000000 in
theorem t8_goers_4   (a1 : Int32)    : ∀ (n : Nat) (x2 : Int32) (x3 : Int32) (w w' : Mem) (r : Int32), f8_goers_4  a1  n x2 x3 w = some (r, w') → Bk yX8_goers cX8_goers 4 (some .int) 3 4 [(0, vR 32 0), (1, vI a1), (2, vI x2), (3, vI x3)] [] w (some (vI r)) w' := by
  intro n
  induction n with
  | zero =>
    intro x2 x3 w w' r h
    cases (show (none : Option (Int32 × Mem)) = some _ from h)
  | succ n ih =>
    intro x2 x3 w w' r h
    rw [f8_goers_4] at h
    refine b_iload_n dX8_goers_4 rfl (k := 3) rfl ?_
    refine b_aload_n dX8_goers_5 rfl (k := 0) rfl ?_
    refine b_getI fl8_94 ob32 rfl dX8_goers_6 ?_
    refine b_icge (tgt := 60) dX8_goers_9 (by decide) (fun c1 => ?_) (fun c1 => ?_)
    · replace h := ifT c1 h
      refine b_iload_n dX8_goers_60 rfl (k := 2) rfl ?_
      obtain ⟨rfl, rfl⟩ := rtE h
      exact b_iret rfl dX8_goers_61
    · replace h := ifF c1 h
      refine b_iload_n dX8_goers_12 rfl (k := 2) rfl ?_
      refine b_aload_n dX8_goers_13 rfl (k := 0) rfl ?_
      refine b_getF fl8_25 ob32 rfl rfl dX8_goers_14 ?_
      refine b_bipush (v := 8) dX8_goers_17 (by decide) ?_
      refine b_iald ar32_11 (j0 := 8) (by decide) (by decide) dX8_goers_19 ?_
      refine b_iload_n dX8_goers_20 rfl (k := 3) rfl ?_
      obtain ⟨r3, w2, hw2, h⟩ := bdO h
      refine b_callSi ms8_has ml8_196 (s8_has (w.1 32 11 8) x3  _ _ _ hw2) rfl (by decide) (by decide) (Nat.le_of_ble_eq_true rfl) rfl dX8_goers_21 ?_
      refine b_ifne (tgt := 51) dX8_goers_24 (by decide) (fun c4 => ?_) (fun c4 => ?_)
      · replace h := ifF c4 h
        refine b_iconst (v := 0) dX8_goers_51 (by decide) ?_
        refine b_ior dX8_goers_52 ?_
        obtain ⟨y5, ey5, h⟩ := nmE h
        refine b_nmI ey5 ?_
        refine b_istore_n (lv' := [(2, vI y5), (0, vR 32 0), (1, vI a1), (3, vI x3)]) dX8_goers_53 rfl (by decide) rfl ?_
        obtain ⟨y6, ey6, h⟩ := nmE h
        refine b_iinc (v := y6) (lv' := [(3, vI y6), (2, vI y5), (0, vR 32 0), (1, vI a1)]) dX8_goers_54 (k := 3) rfl ey6.symm (by decide) rfl ?_
        refine b_goto (tgt := 4) dX8_goers_57 (by decide) ?_
        refine b_sub [2, 3, 1, 0] rfl ?_
        exact ih y5 y6 _ _ _ h
      · replace h := ifT c4 h
        refine b_aload_n dX8_goers_27 rfl (k := 0) rfl ?_
        refine b_iload_n dX8_goers_28 rfl (k := 3) rfl ?_
        refine b_iload_n dX8_goers_29 rfl (k := 1) rfl ?_
        refine b_aload_n dX8_goers_30 rfl (k := 0) rfl ?_
        refine b_getF fl8_25 ob32 rfl rfl dX8_goers_31 ?_
        refine b_bipush (v := 10) dX8_goers_34 (by decide) ?_
        refine b_iload_n dX8_goers_36 rfl (k := 3) rfl ?_
        refine b_iadd dX8_goers_37 ?_
        obtain ⟨g7, h⟩ := gdE h
        refine b_iald ar32_11 g7 rfl dX8_goers_38 ?_
        obtain ⟨r9, w8, hw8, h⟩ := bdO h
        refine b_callVi mv8_goesBy ml8_200 ob32 (s8_goesBy x3 a1 (w2.1 32 11 (Int32.toNatClampNeg (10 + x3)))  _ _ _ hw8) rfl (by decide) (by decide) (Nat.le_of_ble_eq_true rfl) rfl dX8_goers_39 ?_
        refine b_ifeq (tgt := 51) dX8_goers_42 (by decide) (fun c10 => ?_) (fun c10 => ?_)
        · replace h := ifT c10 h
          refine b_iconst (v := 0) dX8_goers_51 (by decide) ?_
          refine b_ior dX8_goers_52 ?_
          obtain ⟨y11, ey11, h⟩ := nmE h
          refine b_nmI ey11 ?_
          refine b_istore_n (lv' := [(2, vI y11), (0, vR 32 0), (1, vI a1), (3, vI x3)]) dX8_goers_53 rfl (by decide) rfl ?_
          obtain ⟨y12, ey12, h⟩ := nmE h
          refine b_iinc (v := y12) (lv' := [(3, vI y12), (2, vI y11), (0, vR 32 0), (1, vI a1)]) dX8_goers_54 (k := 3) rfl ey12.symm (by decide) rfl ?_
          refine b_goto (tgt := 4) dX8_goers_57 (by decide) ?_
          refine b_sub [2, 3, 1, 0] rfl ?_
          exact ih y11 y12 _ _ _ h
        · replace h := ifF c10 h
          refine b_iconst (v := 1) dX8_goers_45 (by decide) ?_
          refine b_iload_n dX8_goers_46 rfl (k := 3) rfl ?_
          refine b_ishl dX8_goers_47 ?_
          refine b_goto (tgt := 52) dX8_goers_48 (by decide) ?_
          refine b_ior dX8_goers_52 ?_
          obtain ⟨y13, ey13, h⟩ := nmE h
          refine b_nmI ey13 ?_
          refine b_istore_n (lv' := [(2, vI y13), (0, vR 32 0), (1, vI a1), (3, vI x3)]) dX8_goers_53 rfl (by decide) rfl ?_
          obtain ⟨y14, ey14, h⟩ := nmE h
          refine b_iinc (v := y14) (lv' := [(3, vI y14), (2, vI y13), (0, vR 32 0), (1, vI a1)]) dX8_goers_54 (k := 3) rfl ey14.symm (by decide) rfl ?_
          refine b_goto (tgt := 4) dX8_goers_57 (by decide) ?_
          refine b_sub [2, 3, 1, 0] rfl ?_
          exact ih y13 y14 _ _ _ h
def f8_goers  (a1 : Int32)   (w : Mem) : Option (Int32 × Mem) :=
  f8_goers_4  a1  100000 0 0 w
set_option maxRecDepth 100000 in
set_option maxHeartbeats 4000000 in
theorem t8_goers   (a1 : Int32)     (w w' : Mem) (r : Int32) (h : f8_goers  a1   w = some (r, w')) : Bk yX8_goers cX8_goers 4 (some .int) 3 0 [(0, vR 32 0), (1, vI a1)] [] w (some (vI r)) w' := by
  unfold f8_goers at h
  refine b_iconst (v := 0) dX8_goers_0 (by decide) ?_
  refine b_istore_n (lv' := [(2, vI 0), (0, vR 32 0), (1, vI a1)]) dX8_goers_1 rfl (by decide) rfl ?_
  refine b_iconst (v := 0) dX8_goers_2 (by decide) ?_
  refine b_istore_n (lv' := [(3, vI 0), (2, vI 0), (0, vR 32 0), (1, vI a1)]) dX8_goers_3 rfl (by decide) rfl ?_
  refine b_sub [2, 3, 1, 0] rfl ?_
  exact t8_goers_4  a1    100000 0 0 _ _ _ h
theorem s8_goers (a1 : Int32)  (w w' : Mem) (r : Int32) (h : f8_goers  a1  w = some (r, w')) : Sp yX8_goers cX8_goers 4 (some .int) 3 [vR 32 0, vI a1] w (some (vI r)) w' := sp_of (by decide) (fun _ => rfl) (fun _ => Nat.le_of_ble_eq_true rfl) (t8_goers  a1   _ _ _ h)
-- X8_comers OneADayModel
def f8_comers_8  (a1 : Int32)  : Nat → Int32 → Int32 → Mem → Option (Int32 × Mem)
  | 0, _, _, _ => none
  | n + 1, x2, x3, w =>
  if (w.1 32 3 0) ≤ x3 then (some (x2, w)) else (if (18 + x3) < 0 ∨ 103 ≤ Int32.toNatClampNeg (18 + x3) then none else bnd (w.1 32 11 (Int32.toNatClampNeg (18 + x3))) fun y3 => if y3 < 0 then (bnd (x3 + 1) fun y5 => f8_comers_8  a1  n x2 y5 w) else (if a1 ≤ y3 then (bnd (x3 + 1) fun y7 => f8_comers_8  a1  n x2 y7 w) else (if (y3 + (w.1 32 1 0)) < a1 then (bnd (x3 + 1) fun y9 => f8_comers_8  a1  n x2 y9 w) else (bnd (x2 &&& ((jshl 1 x3) ^^^ (-1))) fun y10 => bnd (x3 + 1) fun y11 => f8_comers_8  a1  n y10 y11 w))))
set_option maxRecDepth 100000 in
set_option maxHeartbeats 4000000 in
theorem t8_comers_8   (a1 : Int32)    : ∀ (n : Nat) (x2 : Int32) (x3 : Int32) (w w' : Mem) (r : Int32), f8_comers_8  a1  n x2 x3 w = some (r, w') → Bk yX8_comers cX8_comers 5 (some .int) 4 8 [(0, vR 32 0), (1, vI a1), (2, vI x2), (3, vI x3)] [] w (some (vI r)) w' := by
  intro n
  induction n with
  | zero =>
    intro x2 x3 w w' r h
    cases (show (none : Option (Int32 × Mem)) = some _ from h)
  | succ n ih =>
    intro x2 x3 w w' r h
    rw [f8_comers_8] at h
    refine b_iload_n dX8_comers_8 rfl (k := 3) rfl ?_
    refine b_aload_n dX8_comers_9 rfl (k := 0) rfl ?_
    refine b_getI fl8_94 ob32 rfl dX8_comers_10 ?_
    refine b_icge (tgt := 67) dX8_comers_13 (by decide) (fun c1 => ?_) (fun c1 => ?_)
    · replace h := ifT c1 h
      refine b_iload_n dX8_comers_67 rfl (k := 2) rfl ?_
      obtain ⟨rfl, rfl⟩ := rtE h
      exact b_iret rfl dX8_comers_68
    · replace h := ifF c1 h
      refine b_aload_n dX8_comers_16 rfl (k := 0) rfl ?_
      refine b_getF fl8_25 ob32 rfl rfl dX8_comers_17 ?_
      refine b_bipush (v := 18) dX8_comers_20 (by decide) ?_
      refine b_iload_n dX8_comers_22 rfl (k := 3) rfl ?_
      refine b_iadd dX8_comers_23 ?_
      obtain ⟨g2, h⟩ := gdE h
      refine b_iald ar32_11 g2 rfl dX8_comers_24 ?_
      obtain ⟨y3, ey3, h⟩ := nmE h
      refine b_nmI ey3 ?_
      refine b_istore (lv' := [(4, vI y3), (0, vR 32 0), (1, vI a1), (2, vI x2), (3, vI x3)]) dX8_comers_25 (by decide) rfl ?_
      refine b_iload dX8_comers_27 (k := 0) rfl ?_
      refine b_iflt (tgt := 59) dX8_comers_29 (by decide) (fun c4 => ?_) (fun c4 => ?_)
      · replace h := ifT c4 h
        refine b_iload_n dX8_comers_59 rfl (k := 3) rfl ?_
        refine b_istore_n (lv' := [(2, vI x2), (4, vI y3), (0, vR 32 0), (1, vI a1), (3, vI x3)]) dX8_comers_60 rfl (by decide) rfl ?_
        obtain ⟨y5, ey5, h⟩ := nmE h
        refine b_iinc (v := y5) (lv' := [(3, vI y5), (2, vI x2), (4, vI y3), (0, vR 32 0), (1, vI a1)]) dX8_comers_61 (k := 4) rfl ey5.symm (by decide) rfl ?_
        refine b_goto (tgt := 8) dX8_comers_64 (by decide) ?_
        refine b_sub [3, 4, 1, 0] rfl ?_
        exact ih x2 y5 _ _ _ h
      · replace h := ifF c4 h
        refine b_iload_n dX8_comers_32 rfl (k := 2) rfl ?_
        refine b_iload dX8_comers_33 (k := 0) rfl ?_
        refine b_icle (tgt := 59) dX8_comers_35 (by decide) (fun c6 => ?_) (fun c6 => ?_)
        · replace h := ifT c6 h
          refine b_iload_n dX8_comers_59 rfl (k := 3) rfl ?_
          refine b_istore_n (lv' := [(2, vI x2), (4, vI y3), (0, vR 32 0), (1, vI a1), (3, vI x3)]) dX8_comers_60 rfl (by decide) rfl ?_
          obtain ⟨y7, ey7, h⟩ := nmE h
          refine b_iinc (v := y7) (lv' := [(3, vI y7), (2, vI x2), (4, vI y3), (0, vR 32 0), (1, vI a1)]) dX8_comers_61 (k := 4) rfl ey7.symm (by decide) rfl ?_
          refine b_goto (tgt := 8) dX8_comers_64 (by decide) ?_
          refine b_sub [3, 4, 1, 0] rfl ?_
          exact ih x2 y7 _ _ _ h
        · replace h := ifF c6 h
          refine b_iload_n dX8_comers_38 rfl (k := 2) rfl ?_
          refine b_iload dX8_comers_39 (k := 0) rfl ?_
          refine b_aload_n dX8_comers_41 rfl (k := 1) rfl ?_
          refine b_getI fl8_158 ob32 rfl dX8_comers_42 ?_
          refine b_iadd dX8_comers_45 ?_
          refine b_icgt (tgt := 59) dX8_comers_46 (by decide) (fun c8 => ?_) (fun c8 => ?_)
          · replace h := ifT c8 h
            refine b_iload_n dX8_comers_59 rfl (k := 3) rfl ?_
            refine b_istore_n (lv' := [(2, vI x2), (4, vI y3), (0, vR 32 0), (1, vI a1), (3, vI x3)]) dX8_comers_60 rfl (by decide) rfl ?_
            obtain ⟨y9, ey9, h⟩ := nmE h
            refine b_iinc (v := y9) (lv' := [(3, vI y9), (2, vI x2), (4, vI y3), (0, vR 32 0), (1, vI a1)]) dX8_comers_61 (k := 4) rfl ey9.symm (by decide) rfl ?_
            refine b_goto (tgt := 8) dX8_comers_64 (by decide) ?_
            refine b_sub [3, 4, 1, 0] rfl ?_
            exact ih x2 y9 _ _ _ h
          · replace h := ifF c8 h
            refine b_iload_n dX8_comers_49 rfl (k := 3) rfl ?_
            refine b_iconst (v := 1) dX8_comers_50 (by decide) ?_
            refine b_iload_n dX8_comers_51 rfl (k := 4) rfl ?_
            refine b_ishl dX8_comers_52 ?_
            refine b_iconst (v := (-1)) dX8_comers_53 (by decide) ?_
            refine b_ixor dX8_comers_54 ?_
            refine b_iand dX8_comers_55 ?_
            refine b_goto (tgt := 60) dX8_comers_56 (by decide) ?_
            obtain ⟨y10, ey10, h⟩ := nmE h
            refine b_nmI ey10 ?_
            refine b_istore_n (lv' := [(2, vI y10), (4, vI y3), (0, vR 32 0), (1, vI a1), (3, vI x3)]) dX8_comers_60 rfl (by decide) rfl ?_
            obtain ⟨y11, ey11, h⟩ := nmE h
            refine b_iinc (v := y11) (lv' := [(3, vI y11), (2, vI y10), (4, vI y3), (0, vR 32 0), (1, vI a1)]) dX8_comers_61 (k := 4) rfl ey11.symm (by decide) rfl ?_
            refine b_goto (tgt := 8) dX8_comers_64 (by decide) ?_
            refine b_sub [3, 4, 1, 0] rfl ?_
            exact ih y10 y11 _ _ _ h
def f8_comers  (a1 : Int32)   (w : Mem) : Option (Int32 × Mem) :=
  bndO (f8_goers a1 w) fun r2 w1 => f8_comers_8  a1  100000 r2 0 w1
set_option maxRecDepth 100000 in
set_option maxHeartbeats 4000000 in
theorem t8_comers   (a1 : Int32)     (w w' : Mem) (r : Int32) (h : f8_comers  a1   w = some (r, w')) : Bk yX8_comers cX8_comers 5 (some .int) 4 0 [(0, vR 32 0), (1, vI a1)] [] w (some (vI r)) w' := by
  unfold f8_comers at h
  refine b_aload_n dX8_comers_0 rfl (k := 0) rfl ?_
  refine b_iload_n dX8_comers_1 rfl (k := 1) rfl ?_
  obtain ⟨r2, w1, hw1, h⟩ := bdO h
  refine b_callVi mv8_goers ml8_204 ob32 (s8_goers a1  _ _ _ hw1) rfl (by decide) (by decide) (Nat.le_of_ble_eq_true rfl) rfl dX8_comers_2 ?_
  refine b_istore_n (lv' := [(2, vI r2), (0, vR 32 0), (1, vI a1)]) dX8_comers_5 rfl (by decide) rfl ?_
  refine b_iconst (v := 0) dX8_comers_6 (by decide) ?_
  refine b_istore_n (lv' := [(3, vI 0), (2, vI r2), (0, vR 32 0), (1, vI a1)]) dX8_comers_7 rfl (by decide) rfl ?_
  refine b_sub [2, 3, 1, 0] rfl ?_
  exact t8_comers_8  a1    100000 r2 0 _ _ _ h
theorem s8_comers (a1 : Int32)  (w w' : Mem) (r : Int32) (h : f8_comers  a1  w = some (r, w')) : Sp yX8_comers cX8_comers 5 (some .int) 4 [vR 32 0, vI a1] w (some (vI r)) w' := sp_of (by decide) (fun _ => rfl) (fun _ => Nat.le_of_ble_eq_true rfl) (t8_comers  a1   _ _ _ h)
-- X8_comes OneADayModel
def f8_comes  (a1 : Int32)   (w : Mem) : Option (Int32 × Mem) :=
  bndO (f8_in (Int32.toInt64 a1) 0 9999 w) fun r2 w1 => if r2 = 0 then (some ((-1000000002), w1)) else (bndO (f8_comers a1 w1) fun r5 w4 => some (r5, w4))
set_option maxRecDepth 100000 in
set_option maxHeartbeats 4000000 in
theorem t8_comes   (a1 : Int32)     (w w' : Mem) (r : Int32) (h : f8_comes  a1   w = some (r, w')) : Bk yX8_comes cX8_comes 2 (some .int) 5 0 [(0, vR 32 0), (1, vI a1)] [] w (some (vI r)) w' := by
  unfold f8_comes at h
  refine b_iload_n dX8_comes_0 rfl (k := 1) rfl ?_
  refine b_i2l dX8_comes_1 ?_
  refine b_lconst (v := 0) dX8_comes_2 (by decide) ?_
  refine b_ldc2 dX8_comes_3 kl8_208 ?_
  obtain ⟨r2, w1, hw1, h⟩ := bdO h
  refine b_callSi ms8_in ml8_97 (s8_in (Int32.toInt64 a1) 0 9999  _ _ _ hw1) rfl (by decide) (by decide) (Nat.le_of_ble_eq_true rfl) rfl dX8_comes_6 ?_
  refine b_ifeq (tgt := 20) dX8_comes_9 (by decide) (fun c3 => ?_) (fun c3 => ?_)
  · replace h := ifT c3 h
    refine b_ldc dX8_comes_20 kk8_103 ?_
    obtain ⟨rfl, rfl⟩ := rtE h
    exact b_iret rfl dX8_comes_22
  · replace h := ifF c3 h
    refine b_aload_n dX8_comes_12 rfl (k := 0) rfl ?_
    refine b_iload_n dX8_comes_13 rfl (k := 1) rfl ?_
    obtain ⟨r5, w4, hw4, h⟩ := bdO h
    refine b_callVi mv8_comers ml8_210 ob32 (s8_comers a1  _ _ _ hw4) rfl (by decide) (by decide) (Nat.le_of_ble_eq_true rfl) rfl dX8_comes_14 ?_
    refine b_goto (tgt := 22) dX8_comes_17 (by decide) ?_
    obtain ⟨rfl, rfl⟩ := rtE h
    exact b_iret rfl dX8_comes_22
theorem s8_comes (a1 : Int32)  (w w' : Mem) (r : Int32) (h : f8_comes  a1  w = some (r, w')) : Sp yX8_comes cX8_comes 2 (some .int) 5 [vR 32 0, vI a1] w (some (vI r)) w' := sp_of (by decide) (fun _ => rfl) (fun _ => Nat.le_of_ble_eq_true rfl) (t8_comes  a1   _ _ _ h)
-- X8_blessed OneADayModel
def f8_blessed  (a1 : Int32)   (w : Mem) : Option (Int32 × Mem) :=
  bndO (f8_in (Int32.toInt64 a1) 0 (Int32.toInt64 ((w.1 32 11 0) - 1)) w) fun r2 w1 => if r2 = 0 then (some ((-1), w1)) else (if a1 < ((w1.1 32 11 0) - 60) then (some ((-1), w1)) else (if (43 + (jrem a1 60)) < 0 ∨ 103 ≤ Int32.toNatClampNeg (43 + (jrem a1 60)) then none else some (w1.1 32 11 (Int32.toNatClampNeg (43 + (jrem a1 60))), w1)))
set_option maxRecDepth 100000 in
set_option maxHeartbeats 4000000 in
theorem t8_blessed   (a1 : Int32)     (w w' : Mem) (r : Int32) (h : f8_blessed  a1   w = some (r, w')) : Bk yX8_blessed cX8_blessed 2 (some .int) 2 0 [(0, vR 32 0), (1, vI a1)] [] w (some (vI r)) w' := by
  unfold f8_blessed at h
  refine b_iload_n dX8_blessed_0 rfl (k := 1) rfl ?_
  refine b_i2l dX8_blessed_1 ?_
  refine b_lconst (v := 0) dX8_blessed_2 (by decide) ?_
  refine b_aload_n dX8_blessed_3 rfl (k := 0) rfl ?_
  refine b_getF fl8_25 ob32 rfl rfl dX8_blessed_4 ?_
  refine b_iconst (v := 0) dX8_blessed_7 (by decide) ?_
  refine b_iald ar32_11 (j0 := 0) (by decide) (by decide) dX8_blessed_8 ?_
  refine b_iconst (v := 1) dX8_blessed_9 (by decide) ?_
  refine b_isub dX8_blessed_10 ?_
  refine b_i2l dX8_blessed_11 ?_
  obtain ⟨r2, w1, hw1, h⟩ := bdO h
  refine b_callSi ms8_in ml8_97 (s8_in (Int32.toInt64 a1) 0 (Int32.toInt64 ((w.1 32 11 0) - 1))  _ _ _ hw1) rfl (by decide) (by decide) (Nat.le_of_ble_eq_true rfl) rfl dX8_blessed_12 ?_
  refine b_ifeq (tgt := 46) dX8_blessed_15 (by decide) (fun c3 => ?_) (fun c3 => ?_)
  · replace h := ifT c3 h
    refine b_iconst (v := (-1)) dX8_blessed_46 (by decide) ?_
    obtain ⟨rfl, rfl⟩ := rtE h
    exact b_iret rfl dX8_blessed_47
  · replace h := ifF c3 h
    refine b_iload_n dX8_blessed_18 rfl (k := 1) rfl ?_
    refine b_aload_n dX8_blessed_19 rfl (k := 0) rfl ?_
    refine b_getF fl8_25 ob32 rfl rfl dX8_blessed_20 ?_
    refine b_iconst (v := 0) dX8_blessed_23 (by decide) ?_
    refine b_iald ar32_11 (j0 := 0) (by decide) (by decide) dX8_blessed_24 ?_
    refine b_bipush (v := 60) dX8_blessed_25 (by decide) ?_
    refine b_isub dX8_blessed_27 ?_
    refine b_iclt (tgt := 46) dX8_blessed_28 (by decide) (fun c4 => ?_) (fun c4 => ?_)
    · replace h := ifT c4 h
      refine b_iconst (v := (-1)) dX8_blessed_46 (by decide) ?_
      obtain ⟨rfl, rfl⟩ := rtE h
      exact b_iret rfl dX8_blessed_47
    · replace h := ifF c4 h
      refine b_aload_n dX8_blessed_31 rfl (k := 0) rfl ?_
      refine b_getF fl8_25 ob32 rfl rfl dX8_blessed_32 ?_
      refine b_bipush (v := 43) dX8_blessed_35 (by decide) ?_
      refine b_iload_n dX8_blessed_37 rfl (k := 1) rfl ?_
      refine b_bipush (v := 60) dX8_blessed_38 (by decide) ?_
      refine b_irem dX8_blessed_40 (by decide) ?_
      refine b_iadd dX8_blessed_41 ?_
      obtain ⟨g5, h⟩ := gdE h
      refine b_iald ar32_11 g5 rfl dX8_blessed_42 ?_
      refine b_goto (tgt := 47) dX8_blessed_43 (by decide) ?_
      obtain ⟨rfl, rfl⟩ := rtE h
      exact b_iret rfl dX8_blessed_47
theorem s8_blessed (a1 : Int32)  (w w' : Mem) (r : Int32) (h : f8_blessed  a1  w = some (r, w')) : Sp yX8_blessed cX8_blessed 2 (some .int) 2 [vR 32 0, vI a1] w (some (vI r)) w' := sp_of (by decide) (fun _ => rfl) (fun _ => Nat.le_of_ble_eq_true rfl) (t8_blessed  a1   _ _ _ h)
-- X8_least OneADayModel
def f8_least_2  (a1 : Int32)  : Nat → Int32 → Mem → Option (Int32 × Mem)
  | 0, _, _ => none
  | n + 1, x2, w =>
  bndO (f8_has a1 x2 w) fun r2 w1 => if r2 = 0 then (bnd (x2 + 1) fun y4 => f8_least_2  a1  n y4 w1) else (some (x2, w1))
set_option maxRecDepth 100000 in
set_option maxHeartbeats 4000000 in
theorem t8_least_2   (a1 : Int32)    : ∀ (n : Nat) (x2 : Int32) (w w' : Mem) (r : Int32), f8_least_2  a1  n x2 w = some (r, w') → Bk yX8_least cX8_least 3 (some .int) 2 2 [(1, vI a1), (2, vI x2)] [] w (some (vI r)) w' := by
  intro n
  induction n with
  | zero =>
    intro x2 w w' r h
    cases (show (none : Option (Int32 × Mem)) = some _ from h)
  | succ n ih =>
    intro x2 w w' r h
    rw [f8_least_2] at h
    refine b_iload_n dX8_least_2 rfl (k := 0) rfl ?_
    refine b_iload_n dX8_least_3 rfl (k := 1) rfl ?_
    obtain ⟨r2, w1, hw1, h⟩ := bdO h
    refine b_callSi ms8_has ml8_196 (s8_has a1 x2  _ _ _ hw1) rfl (by decide) (by decide) (Nat.le_of_ble_eq_true rfl) rfl dX8_least_4 ?_
    refine b_ifne (tgt := 16) dX8_least_7 (by decide) (fun c3 => ?_) (fun c3 => ?_)
    · replace h := ifF c3 h
      refine b_iload_n dX8_least_16 rfl (k := 1) rfl ?_
      obtain ⟨rfl, rfl⟩ := rtE h
      exact b_iret rfl dX8_least_17
    · replace h := ifT c3 h
      obtain ⟨y4, ey4, h⟩ := nmE h
      refine b_iinc (v := y4) (lv' := [(2, vI y4), (1, vI a1)]) dX8_least_10 (k := 1) rfl ey4.symm (by decide) rfl ?_
      refine b_goto (tgt := 2) dX8_least_13 (by decide) ?_
      refine b_sub [1, 0] rfl ?_
      exact ih y4 _ _ _ h
def f8_least  (a1 : Int32)   (w : Mem) : Option (Int32 × Mem) :=
  f8_least_2  a1  100000 0 w
set_option maxRecDepth 100000 in
set_option maxHeartbeats 4000000 in
theorem t8_least   (a1 : Int32)     (w w' : Mem) (r : Int32) (h : f8_least  a1   w = some (r, w')) : Bk yX8_least cX8_least 3 (some .int) 2 0 [(0, vR 32 0), (1, vI a1)] [] w (some (vI r)) w' := by
  unfold f8_least at h
  refine b_iconst (v := 0) dX8_least_0 (by decide) ?_
  refine b_istore_n (lv' := [(2, vI 0), (0, vR 32 0), (1, vI a1)]) dX8_least_1 rfl (by decide) rfl ?_
  refine b_sub [2, 0] rfl ?_
  exact t8_least_2  a1    100000 0 _ _ _ h
theorem s8_least (a1 : Int32)  (w w' : Mem) (r : Int32) (h : f8_least  a1  w = some (r, w')) : Sp yX8_least cX8_least 3 (some .int) 2 [vR 32 0, vI a1] w (some (vI r)) w' := sp_of (by decide) (fun _ => rfl) (fun _ => Nat.le_of_ble_eq_true rfl) (t8_least  a1   _ _ _ h)
