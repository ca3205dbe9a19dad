set_option maxRecDepth 100000 in
set_option maxHeartbeats 4000000 in
theorem c_X7_init {l : Launch} {D : va_G} {X : XI} (hl0 : l.stackTraces = false) {ws : va_W} {pp h : Nat} (h0 : ws[pp]? = some (h, .inr (7, [Value.null, Value.null, Value.null, Value.null, vI 0, Value.null, vI 0, vI 0, Value.null, Value.null, Value.null, Value.null, Value.null, vI 0, vI 0, vI 0, vI 0, vI 0, vI 0, vI 0, vI 0, vI 0, vI 0, Value.null, Value.null, Value.null, Value.null, vI 0, vJ 0]))) (sz : Nat) : Met l yX7_init (WW (.code yX7_init cX7_init 2 none)) { frames := 1, cells := 14, slots := 3367, locals := 12 } (va_Pc [.ref h] (WC D X ws sz)) (QC D (va_A ws sz) (fun u => OW ws pp h 7 (modF (uu h u) 0) (modA X (uu h u) 0))) 14 3367 (va_A ws sz) := by
  have hp : pp < ws.length := (List.getElem?_eq_some_iff.mp h0).1
  refine m_start (own := RX7) (cc := cX7_init) (maxL := 2) (by decide) rfl rfl rfl (Nat.le_of_ble_eq_true rfl) ?_
  intro p e s m below meth c a hr hn hsz
  have hts := a.1.2.2.2.2
  have w1 := hts (Cond.methodLink RX7 1 objectInit) (List.mem_cons_of_mem _ (GL_5 _ (by decide +kernel)))
  have w2 := hts (Cond.instanceMethod objectInit) (List.mem_cons_of_mem _ (GL_1 _ (by decide +kernel)))
  have w3 := hts (Cond.code objectInit ⟨#[0xb1]⟩ 1 none) (List.mem_cons_of_mem _ (GL_1 _ (by decide +kernel)))
  have w4 := hts (Cond.arrayClass .int) (List.mem_cons_of_mem _ (GL_2 _ (by decide +kernel)))
  have w5 := hts (Cond.fieldLink RX7 7 "SightLegendModel" "s" "[I") (List.mem_cons_of_mem _ (GL_5 _ (by decide +kernel)))
  have w6 : ∀ w ∈ u_ws RX7 TX7 29, w ∈ WW (.code yX7_init cX7_init 2 none) := fun w h => List.mem_cons_of_mem _ (inlX7 w h)
  have w7 := hts (Cond.fieldLink RX7 13 "SightLegendModel" "past" "[I") (List.mem_cons_of_mem _ (GL_5 _ (by decide +kernel)))
  have w8 := hts (Cond.fieldLink RX7 16 "SightLegendModel" "aside" "[I") (List.mem_cons_of_mem _ (GL_5 _ (by decide +kernel)))
  have w9 := hts (Cond.fieldLink RX7 19 "SightLegendModel" "kept" "[I") (List.mem_cons_of_mem _ (GL_5 _ (by decide +kernel)))
  have w10 := hts (Cond.fieldLink RX7 22 "SightLegendModel" "text" "[I") (List.mem_cons_of_mem _ (GL_5 _ (by decide +kernel)))
  have w11 := hts (Cond.arrayClass .boolean) (List.mem_cons_of_mem _ (GL_3 _ (by decide +kernel)))
  have w12 := hts (Cond.fieldLink RX7 25 "SightLegendModel" "sight" "[Z") (List.mem_cons_of_mem _ (GL_5 _ (by decide +kernel)))
  have w13 := hts (Cond.fieldLink RX7 29 "SightLegendModel" "line" "[I") (List.mem_cons_of_mem _ (GL_5 _ (by decide +kernel)))
  have w14 := hts (Cond.fieldLink RX7 32 "SightLegendModel" "old" "[I") (List.mem_cons_of_mem _ (GL_5 _ (by decide +kernel)))
  have w15 := hts (Cond.fieldLink RX7 35 "SightLegendModel" "columnOf" "[I") (List.mem_cons_of_mem _ (GL_5 _ (by decide +kernel)))
  have w16 := hts (Cond.fieldLink RX7 38 "SightLegendModel" "placeOf" "[I") (List.mem_cons_of_mem _ (GL_5 _ (by decide +kernel)))
  have w17 := hts (Cond.fieldLink RX7 41 "SightLegendModel" "firsts" "[I") (List.mem_cons_of_mem _ (GL_5 _ (by decide +kernel)))
  have w18 := hts (Cond.fieldLink RX7 44 "SightLegendModel" "lasts" "[I") (List.mem_cons_of_mem _ (GL_5 _ (by decide +kernel)))
  have w19 := hts (Cond.fieldLink RX7 47 "SightLegendModel" "sums" "[I") (List.mem_cons_of_mem _ (GL_5 _ (by decide +kernel)))
  have w20 := hts (Cond.fieldLink RX7 50 "SightLegendModel" "waits" "[Z") (List.mem_cons_of_mem _ (GL_5 _ (by decide +kernel)))
  refine m_eq (ws1 := OW ws pp h 7 [Value.null, Value.null, Value.null, Value.null, vI 0, Value.null, vI 0, vI 0, Value.null, Value.null, Value.null, Value.null, Value.null, vI 0, vI 0, vI 0, vI 0, vI 0, vI 0, vI 0, vI 0, vI 0, vI 0, Value.null, Value.null, Value.null, Value.null, vI 0, vJ 0] []) (ow_init h0) ?_
  refine m_aload_n (pc := 0) a 0 dX7_init_0 rfl rfl ?_
  refine m_obj (pc := 1) a w1 w2 w3 (Nat.le_of_ble_eq_true rfl) (Nat.le_of_ble_eq_true rfl) dX7_init_1 ?_
  refine m_aload_n (pc := 4) a 0 dX7_init_4 rfl rfl ?_
  refine m_sipush (pc := 5) a dX7_init_5 (by decide) ?_
  refine m_newI (pc := 8) a (n := 311) rfl (by decide) w4 (Nat.le_of_ble_eq_true rfl) (Nat.le_of_ble_eq_true rfl) dX7_init_8 (fun q1 => ?_)
  refine m_putF (pc := 10) a 0 hp vc7 w6 w5 (by decide) tyX7 tyX7_ok nmX7 rfl hn rfl (ty := tyX7 0) (tyX7_ok 0 (by decide)) rfl rfl (Nat.le_of_ble_eq_true rfl) dX7_init_10 ?_
  refine m_aload_n (pc := 13) a 0 dX7_init_13 rfl rfl ?_
  refine m_sipush (pc := 14) a dX7_init_14 (by decide) ?_
  refine m_newI (pc := 17) a (n := 1244) rfl (by decide) w4 (Nat.le_of_ble_eq_true rfl) (Nat.le_of_ble_eq_true rfl) dX7_init_17 (fun q2 => ?_)
  refine m_putF (pc := 19) a 1 hp vc7 w6 w7 (by decide) tyX7 tyX7_ok nmX7 rfl hn rfl (ty := tyX7 1) (tyX7_ok 1 (by decide)) rfl rfl (Nat.le_of_ble_eq_true rfl) dX7_init_19 ?_
  refine m_aload_n (pc := 22) a 0 dX7_init_22 rfl rfl ?_
  refine m_sipush (pc := 23) a dX7_init_23 (by decide) ?_
  refine m_newI (pc := 26) a (n := 311) rfl (by decide) w4 (Nat.le_of_ble_eq_true rfl) (Nat.le_of_ble_eq_true rfl) dX7_init_26 (fun q3 => ?_)
  refine m_putF (pc := 28) a 2 hp vc7 w6 w8 (by decide) tyX7 tyX7_ok nmX7 rfl hn rfl (ty := tyX7 2) (tyX7_ok 2 (by decide)) rfl rfl (Nat.le_of_ble_eq_true rfl) dX7_init_28 ?_
  refine m_aload_n (pc := 31) a 0 dX7_init_31 rfl rfl ?_
  refine m_sipush (pc := 32) a dX7_init_32 (by decide) ?_
  refine m_newI (pc := 35) a (n := 311) rfl (by decide) w4 (Nat.le_of_ble_eq_true rfl) (Nat.le_of_ble_eq_true rfl) dX7_init_35 (fun q4 => ?_)
  refine m_putF (pc := 37) a 3 hp vc7 w6 w9 (by decide) tyX7 tyX7_ok nmX7 rfl hn rfl (ty := tyX7 3) (tyX7_ok 3 (by decide)) rfl rfl (Nat.le_of_ble_eq_true rfl) dX7_init_37 ?_
  refine m_aload_n (pc := 40) a 0 dX7_init_40 rfl rfl ?_
  refine m_sipush (pc := 41) a dX7_init_41 (by decide) ?_
  refine m_newI (pc := 44) a (n := 160) rfl (by decide) w4 (Nat.le_of_ble_eq_true rfl) (Nat.le_of_ble_eq_true rfl) dX7_init_44 (fun q5 => ?_)
  refine m_putF (pc := 46) a 5 hp vc7 w6 w10 (by decide) tyX7 tyX7_ok nmX7 rfl hn rfl (ty := tyX7 5) (tyX7_ok 5 (by decide)) rfl rfl (Nat.le_of_ble_eq_true rfl) dX7_init_46 ?_
  refine m_aload_n (pc := 49) a 0 dX7_init_49 rfl rfl ?_
  refine m_bipush (pc := 50) a dX7_init_50 (by decide) ?_
  refine m_newZ (pc := 52) a (n := 40) rfl (by decide) w11 (Nat.le_of_ble_eq_true rfl) (Nat.le_of_ble_eq_true rfl) dX7_init_52 (fun q6 => ?_)
  refine m_putF (pc := 54) a 8 hp vc7 w6 w12 (by decide) tyX7 tyX7_ok nmX7 rfl hn rfl (ty := tyX7 8) (tyX7_ok 8 (by decide)) rfl rfl (Nat.le_of_ble_eq_true rfl) dX7_init_54 ?_
  refine m_aload_n (pc := 57) a 0 dX7_init_57 rfl rfl ?_
  refine m_sipush (pc := 58) a dX7_init_58 (by decide) ?_
  refine m_newI (pc := 61) a (n := 400) rfl (by decide) w4 (Nat.le_of_ble_eq_true rfl) (Nat.le_of_ble_eq_true rfl) dX7_init_61 (fun q7 => ?_)
  refine m_putF (pc := 63) a 9 hp vc7 w6 w13 (by decide) tyX7 tyX7_ok nmX7 rfl hn rfl (ty := tyX7 9) (tyX7_ok 9 (by decide)) rfl rfl (Nat.le_of_ble_eq_true rfl) dX7_init_63 ?_
  refine m_aload_n (pc := 66) a 0 dX7_init_66 rfl rfl ?_
  refine m_sipush (pc := 67) a dX7_init_67 (by decide) ?_
  refine m_newI (pc := 70) a (n := 400) rfl (by decide) w4 (Nat.le_of_ble_eq_true rfl) (Nat.le_of_ble_eq_true rfl) dX7_init_70 (fun q8 => ?_)
  refine m_putF (pc := 72) a 10 hp vc7 w6 w14 (by decide) tyX7 tyX7_ok nmX7 rfl hn rfl (ty := tyX7 10) (tyX7_ok 10 (by decide)) rfl rfl (Nat.le_of_ble_eq_true rfl) dX7_init_72 ?_
  refine m_aload_n (pc := 75) a 0 dX7_init_75 rfl rfl ?_
  refine m_bipush (pc := 76) a dX7_init_76 (by decide) ?_
  refine m_newI (pc := 78) a (n := 80) rfl (by decide) w4 (Nat.le_of_ble_eq_true rfl) (Nat.le_of_ble_eq_true rfl) dX7_init_78 (fun q9 => ?_)
  refine m_putF (pc := 80) a 11 hp vc7 w6 w15 (by decide) tyX7 tyX7_ok nmX7 rfl hn rfl (ty := tyX7 11) (tyX7_ok 11 (by decide)) rfl rfl (Nat.le_of_ble_eq_true rfl) dX7_init_80 ?_
  refine m_aload_n (pc := 83) a 0 dX7_init_83 rfl rfl ?_
  refine m_bipush (pc := 84) a dX7_init_84 (by decide) ?_
  refine m_newI (pc := 86) a (n := 80) rfl (by decide) w4 (Nat.le_of_ble_eq_true rfl) (Nat.le_of_ble_eq_true rfl) dX7_init_86 (fun q10 => ?_)
  refine m_putF (pc := 88) a 12 hp vc7 w6 w16 (by decide) tyX7 tyX7_ok nmX7 rfl hn rfl (ty := tyX7 12) (tyX7_ok 12 (by decide)) rfl rfl (Nat.le_of_ble_eq_true rfl) dX7_init_88 ?_
  refine m_aload_n (pc := 91) a 0 dX7_init_91 rfl rfl ?_
  refine m_bipush (pc := 92) a dX7_init_92 (by decide) ?_
  refine m_newI (pc := 94) a (n := 6) rfl (by decide) w4 (Nat.le_of_ble_eq_true rfl) (Nat.le_of_ble_eq_true rfl) dX7_init_94 (fun q11 => ?_)
  refine m_putF (pc := 96) a 23 hp vc7 w6 w17 (by decide) tyX7 tyX7_ok nmX7 rfl hn rfl (ty := tyX7 23) (tyX7_ok 23 (by decide)) rfl rfl (Nat.le_of_ble_eq_true rfl) dX7_init_96 ?_
  refine m_aload_n (pc := 99) a 0 dX7_init_99 rfl rfl ?_
  refine m_bipush (pc := 100) a dX7_init_100 (by decide) ?_
  refine m_newI (pc := 102) a (n := 6) rfl (by decide) w4 (Nat.le_of_ble_eq_true rfl) (Nat.le_of_ble_eq_true rfl) dX7_init_102 (fun q12 => ?_)
  refine m_putF (pc := 104) a 24 hp vc7 w6 w18 (by decide) tyX7 tyX7_ok nmX7 rfl hn rfl (ty := tyX7 24) (tyX7_ok 24 (by decide)) rfl rfl (Nat.le_of_ble_eq_true rfl) dX7_init_104 ?_
  refine m_aload_n (pc := 107) a 0 dX7_init_107 rfl rfl ?_
  refine m_bipush (pc := 108) a dX7_init_108 (by decide) ?_
  refine m_newI (pc := 110) a (n := 6) rfl (by decide) w4 (Nat.le_of_ble_eq_true rfl) (Nat.le_of_ble_eq_true rfl) dX7_init_110 (fun q13 => ?_)
  refine m_putF (pc := 112) a 25 hp vc7 w6 w19 (by decide) tyX7 tyX7_ok nmX7 rfl hn rfl (ty := tyX7 25) (tyX7_ok 25 (by decide)) rfl rfl (Nat.le_of_ble_eq_true rfl) dX7_init_112 ?_
  refine m_aload_n (pc := 115) a 0 dX7_init_115 rfl rfl ?_
  refine m_bipush (pc := 116) a dX7_init_116 (by decide) ?_
  refine m_newZ (pc := 118) a (n := 12) rfl (by decide) w11 (Nat.le_of_ble_eq_true rfl) (Nat.le_of_ble_eq_true rfl) dX7_init_118 (fun q14 => ?_)
  refine m_putF (pc := 120) a 26 hp vc7 w6 w20 (by decide) tyX7 tyX7_ok nmX7 rfl hn rfl (ty := tyX7 26) (tyX7_ok 26 (by decide)) rfl rfl (Nat.le_of_ble_eq_true rfl) dX7_init_120 ?_
  refine m_aload_n (pc := 123) a 0 dX7_init_123 rfl rfl ?_
  refine m_get (pc := 124) a 0 hp vc7 w6 w5 (by decide) (v := Value.ref q1) rfl dX7_init_124 ?_
  refine m_iconst (pc := 127) a dX7_init_127 ?_
  refine m_iconst (pc := 128) a dX7_init_128 ?_
  refine m_iast (pc := 129) a 0 rfl (by decide) (by decide) dX7_init_129 ?_
  refine m_aload_n (pc := 130) a 0 dX7_init_130 rfl rfl ?_
  refine m_get (pc := 131) a 0 hp vc7 w6 w5 (by decide) (v := Value.ref q1) rfl dX7_init_131 ?_
  refine m_iconst (pc := 134) a dX7_init_134 ?_
  refine m_iconst (pc := 135) a dX7_init_135 ?_
  refine m_iastS (pc := 136) a (Nat.le_of_ble_eq_true rfl) (by decide) (by decide) dX7_init_136 ?_
  refine m_aload_n (pc := 137) a 0 dX7_init_137 rfl rfl ?_
  refine m_get (pc := 138) a 0 hp vc7 w6 w5 (by decide) (v := Value.ref q1) rfl dX7_init_138 ?_
  refine m_iconst (pc := 141) a dX7_init_141 ?_
  refine m_bipush (pc := 142) a dX7_init_142 (by decide) ?_
  refine m_iastS (pc := 144) a (Nat.le_of_ble_eq_true rfl) (by decide) (by decide) dX7_init_144 ?_
  refine m_aload_n (pc := 145) a 0 dX7_init_145 rfl rfl ?_
  refine m_get (pc := 146) a 0 hp vc7 w6 w5 (by decide) (v := Value.ref q1) rfl dX7_init_146 ?_
  refine m_iconst (pc := 149) a dX7_init_149 ?_
  refine m_iconst (pc := 150) a dX7_init_150 ?_
  refine m_iastS (pc := 151) a (Nat.le_of_ble_eq_true rfl) (by decide) (by decide) dX7_init_151 ?_
  refine m_aload_n (pc := 152) a 0 dX7_init_152 rfl rfl ?_
  refine m_get (pc := 153) a 0 hp vc7 w6 w5 (by decide) (v := Value.ref q1) rfl dX7_init_153 ?_
  refine m_bipush (pc := 156) a dX7_init_156 (by decide) ?_
  refine m_bipush (pc := 158) a dX7_init_158 (by decide) ?_
  refine m_iastS (pc := 160) a (Nat.le_of_ble_eq_true rfl) (by decide) (by decide) dX7_init_160 ?_
  refine m_aload_n (pc := 161) a 0 dX7_init_161 rfl rfl ?_
  refine m_get (pc := 162) a 0 hp vc7 w6 w5 (by decide) (v := Value.ref q1) rfl dX7_init_162 ?_
  refine m_bipush (pc := 165) a dX7_init_165 (by decide) ?_
  refine m_bipush (pc := 167) a dX7_init_167 (by decide) ?_
  refine m_iastS (pc := 169) a (Nat.le_of_ble_eq_true rfl) (by decide) (by decide) dX7_init_169 ?_
  refine m_aload_n (pc := 170) a 0 dX7_init_170 rfl rfl ?_
  refine m_get (pc := 171) a 0 hp vc7 w6 w5 (by decide) (v := Value.ref q1) rfl dX7_init_171 ?_
  refine m_bipush (pc := 174) a dX7_init_174 (by decide) ?_
  refine m_iconst (pc := 176) a dX7_init_176 ?_
  refine m_iastS (pc := 177) a (Nat.le_of_ble_eq_true rfl) (by decide) (by decide) dX7_init_177 ?_
  refine m_iconst (pc := 178) a dX7_init_178 ?_
  refine m_istore_n (pc := 179) a (ls1 := [(1, vI 0), (0, Value.ref h)]) dX7_init_179 rfl (by decide) rfl ?_
  refine m_iload_n (pc := 180) a 0 dX7_init_180 rfl rfl ?_
  refine m_bipush (pc := 181) a dX7_init_181 (by decide) ?_
  refine m_geF (pc := 183) a ⟨by decide, by decide⟩ ⟨by decide, by decide⟩ (by decide) dX7_init_183 (tgt := 220) (by decide) ?_
  refine m_aload_n (pc := 186) a 1 dX7_init_186 rfl rfl ?_
  refine m_get (pc := 187) a 0 hp vc7 w6 w5 (by decide) (v := Value.ref q1) rfl dX7_init_187 ?_
  refine m_bipush (pc := 190) a dX7_init_190 (by decide) ?_
  refine m_bipush (pc := 192) a dX7_init_192 (by decide) ?_
  refine m_iload_n (pc := 194) a 0 dX7_init_194 rfl rfl ?_
  refine m_imul (pc := 195) a (z := 0) (by decide) dX7_init_195 ?_
  refine m_iadd (pc := 196) a (z := 15) (by decide) dX7_init_196 ?_
  refine m_iload_n (pc := 197) a 0 dX7_init_197 rfl rfl ?_
  refine m_iastS (pc := 198) a (Nat.le_of_ble_eq_true rfl) (by decide) (by decide) dX7_init_198 ?_
  refine m_aload_n (pc := 199) a 1 dX7_init_199 rfl rfl ?_
  refine m_get (pc := 200) a 0 hp vc7 w6 w5 (by decide) (v := Value.ref q1) rfl dX7_init_200 ?_
  refine m_bipush (pc := 203) a dX7_init_203 (by decide) ?_
  refine m_bipush (pc := 205) a dX7_init_205 (by decide) ?_
  refine m_iload_n (pc := 207) a 0 dX7_init_207 rfl rfl ?_
  refine m_imul (pc := 208) a (z := 0) (by decide) dX7_init_208 ?_
  refine m_iadd (pc := 209) a (z := 15) (by decide) dX7_init_209 ?_
  refine m_iconst (pc := 210) a dX7_init_210 ?_
  refine m_iadd (pc := 211) a (z := 16) (by decide) dX7_init_211 ?_
  refine m_iconst (pc := 212) a dX7_init_212 ?_
  refine m_iastS (pc := 213) a (Nat.le_of_ble_eq_true rfl) (by decide) (by decide) dX7_init_213 ?_
  refine m_iinc (pc := 214) a (y := 1) (ls1 := [(1, vI 1), (0, Value.ref h)]) 0 dX7_init_214 rfl (by decide) (by decide) rfl ?_
  refine m_goto (pc := 217) a dX7_init_217 (tgt := 180) (by decide) ?_
  refine m_iload_n (pc := 180) a 0 dX7_init_180 rfl rfl ?_
  refine m_bipush (pc := 181) a dX7_init_181 (by decide) ?_
  refine m_geF (pc := 183) a ⟨by decide, by decide⟩ ⟨by decide, by decide⟩ (by decide) dX7_init_183 (tgt := 220) (by decide) ?_
  refine m_aload_n (pc := 186) a 1 dX7_init_186 rfl rfl ?_
  refine m_get (pc := 187) a 0 hp vc7 w6 w5 (by decide) (v := Value.ref q1) rfl dX7_init_187 ?_
  refine m_bipush (pc := 190) a dX7_init_190 (by decide) ?_
  refine m_bipush (pc := 192) a dX7_init_192 (by decide) ?_
  refine m_iload_n (pc := 194) a 0 dX7_init_194 rfl rfl ?_
  refine m_imul (pc := 195) a (z := 8) (by decide) dX7_init_195 ?_
  refine m_iadd (pc := 196) a (z := 23) (by decide) dX7_init_196 ?_
  refine m_iload_n (pc := 197) a 0 dX7_init_197 rfl rfl ?_
  refine m_iastS (pc := 198) a (Nat.le_of_ble_eq_true rfl) (by decide) (by decide) dX7_init_198 ?_
  refine m_aload_n (pc := 199) a 1 dX7_init_199 rfl rfl ?_
  refine m_get (pc := 200) a 0 hp vc7 w6 w5 (by decide) (v := Value.ref q1) rfl dX7_init_200 ?_
  refine m_bipush (pc := 203) a dX7_init_203 (by decide) ?_
  refine m_bipush (pc := 205) a dX7_init_205 (by decide) ?_
  refine m_iload_n (pc := 207) a 0 dX7_init_207 rfl rfl ?_
  refine m_imul (pc := 208) a (z := 8) (by decide) dX7_init_208 ?_
  refine m_iadd (pc := 209) a (z := 23) (by decide) dX7_init_209 ?_
  refine m_iconst (pc := 210) a dX7_init_210 ?_
  refine m_iadd (pc := 211) a (z := 24) (by decide) dX7_init_211 ?_
  refine m_iconst (pc := 212) a dX7_init_212 ?_
  refine m_iastS (pc := 213) a (Nat.le_of_ble_eq_true rfl) (by decide) (by decide) dX7_init_213 ?_
  refine m_iinc (pc := 214) a (y := 2) (ls1 := [(1, vI 2), (0, Value.ref h)]) 0 dX7_init_214 rfl (by decide) (by decide) rfl ?_
  refine m_goto (pc := 217) a dX7_init_217 (tgt := 180) (by decide) ?_
  refine m_iload_n (pc := 180) a 0 dX7_init_180 rfl rfl ?_
  refine m_bipush (pc := 181) a dX7_init_181 (by decide) ?_
  refine m_geF (pc := 183) a ⟨by decide, by decide⟩ ⟨by decide, by decide⟩ (by decide) dX7_init_183 (tgt := 220) (by decide) ?_
  refine m_aload_n (pc := 186) a 1 dX7_init_186 rfl rfl ?_
  refine m_get (pc := 187) a 0 hp vc7 w6 w5 (by decide) (v := Value.ref q1) rfl dX7_init_187 ?_
  refine m_bipush (pc := 190) a dX7_init_190 (by decide) ?_
  refine m_bipush (pc := 192) a dX7_init_192 (by decide) ?_
  refine m_iload_n (pc := 194) a 0 dX7_init_194 rfl rfl ?_
  refine m_imul (pc := 195) a (z := 16) (by decide) dX7_init_195 ?_
  refine m_iadd (pc := 196) a (z := 31) (by decide) dX7_init_196 ?_
  refine m_iload_n (pc := 197) a 0 dX7_init_197 rfl rfl ?_
  refine m_iastS (pc := 198) a (Nat.le_of_ble_eq_true rfl) (by decide) (by decide) dX7_init_198 ?_
  refine m_aload_n (pc := 199) a 1 dX7_init_199 rfl rfl ?_
  refine m_get (pc := 200) a 0 hp vc7 w6 w5 (by decide) (v := Value.ref q1) rfl dX7_init_200 ?_
  refine m_bipush (pc := 203) a dX7_init_203 (by decide) ?_
  refine m_bipush (pc := 205) a dX7_init_205 (by decide) ?_
  refine m_iload_n (pc := 207) a 0 dX7_init_207 rfl rfl ?_
  refine m_imul (pc := 208) a (z := 16) (by decide) dX7_init_208 ?_
  refine m_iadd (pc := 209) a (z := 31) (by decide) dX7_init_209 ?_
  refine m_iconst (pc := 210) a dX7_init_210 ?_
  refine m_iadd (pc := 211) a (z := 32) (by decide) dX7_init_211 ?_
  refine m_iconst (pc := 212) a dX7_init_212 ?_
  refine m_iastS (pc := 213) a (Nat.le_of_ble_eq_true rfl) (by decide) (by decide) dX7_init_213 ?_
  refine m_iinc (pc := 214) a (y := 3) (ls1 := [(1, vI 3), (0, Value.ref h)]) 0 dX7_init_214 rfl (by decide) (by decide) rfl ?_
  refine m_goto (pc := 217) a dX7_init_217 (tgt := 180) (by decide) ?_
  refine m_iload_n (pc := 180) a 0 dX7_init_180 rfl rfl ?_
  refine m_bipush (pc := 181) a dX7_init_181 (by decide) ?_
  refine m_geF (pc := 183) a ⟨by decide, by decide⟩ ⟨by decide, by decide⟩ (by decide) dX7_init_183 (tgt := 220) (by decide) ?_
  refine m_aload_n (pc := 186) a 1 dX7_init_186 rfl rfl ?_
  refine m_get (pc := 187) a 0 hp vc7 w6 w5 (by decide) (v := Value.ref q1) rfl dX7_init_187 ?_
  refine m_bipush (pc := 190) a dX7_init_190 (by decide) ?_
  refine m_bipush (pc := 192) a dX7_init_192 (by decide) ?_
  refine m_iload_n (pc := 194) a 0 dX7_init_194 rfl rfl ?_
  refine m_imul (pc := 195) a (z := 24) (by decide) dX7_init_195 ?_
  refine m_iadd (pc := 196) a (z := 39) (by decide) dX7_init_196 ?_
  refine m_iload_n (pc := 197) a 0 dX7_init_197 rfl rfl ?_
  refine m_iastS (pc := 198) a (Nat.le_of_ble_eq_true rfl) (by decide) (by decide) dX7_init_198 ?_
  refine m_aload_n (pc := 199) a 1 dX7_init_199 rfl rfl ?_
  refine m_get (pc := 200) a 0 hp vc7 w6 w5 (by decide) (v := Value.ref q1) rfl dX7_init_200 ?_
  refine m_bipush (pc := 203) a dX7_init_203 (by decide) ?_
  refine m_bipush (pc := 205) a dX7_init_205 (by decide) ?_
  refine m_iload_n (pc := 207) a 0 dX7_init_207 rfl rfl ?_
  refine m_imul (pc := 208) a (z := 24) (by decide) dX7_init_208 ?_
  refine m_iadd (pc := 209) a (z := 39) (by decide) dX7_init_209 ?_
  refine m_iconst (pc := 210) a dX7_init_210 ?_
  refine m_iadd (pc := 211) a (z := 40) (by decide) dX7_init_211 ?_
  refine m_iconst (pc := 212) a dX7_init_212 ?_
  refine m_iastS (pc := 213) a (Nat.le_of_ble_eq_true rfl) (by decide) (by decide) dX7_init_213 ?_
  refine m_iinc (pc := 214) a (y := 4) (ls1 := [(1, vI 4), (0, Value.ref h)]) 0 dX7_init_214 rfl (by decide) (by decide) rfl ?_
  refine m_goto (pc := 217) a dX7_init_217 (tgt := 180) (by decide) ?_
  refine m_iload_n (pc := 180) a 0 dX7_init_180 rfl rfl ?_
  refine m_bipush (pc := 181) a dX7_init_181 (by decide) ?_
  refine m_geF (pc := 183) a ⟨by decide, by decide⟩ ⟨by decide, by decide⟩ (by decide) dX7_init_183 (tgt := 220) (by decide) ?_
  refine m_aload_n (pc := 186) a 1 dX7_init_186 rfl rfl ?_
  refine m_get (pc := 187) a 0 hp vc7 w6 w5 (by decide) (v := Value.ref q1) rfl dX7_init_187 ?_
  refine m_bipush (pc := 190) a dX7_init_190 (by decide) ?_
  refine m_bipush (pc := 192) a dX7_init_192 (by decide) ?_
  refine m_iload_n (pc := 194) a 0 dX7_init_194 rfl rfl ?_
  refine m_imul (pc := 195) a (z := 32) (by decide) dX7_init_195 ?_
  refine m_iadd (pc := 196) a (z := 47) (by decide) dX7_init_196 ?_
  refine m_iload_n (pc := 197) a 0 dX7_init_197 rfl rfl ?_
  refine m_iastS (pc := 198) a (Nat.le_of_ble_eq_true rfl) (by decide) (by decide) dX7_init_198 ?_
  refine m_aload_n (pc := 199) a 1 dX7_init_199 rfl rfl ?_
  refine m_get (pc := 200) a 0 hp vc7 w6 w5 (by decide) (v := Value.ref q1) rfl dX7_init_200 ?_
  refine m_bipush (pc := 203) a dX7_init_203 (by decide) ?_
  refine m_bipush (pc := 205) a dX7_init_205 (by decide) ?_
  refine m_iload_n (pc := 207) a 0 dX7_init_207 rfl rfl ?_
  refine m_imul (pc := 208) a (z := 32) (by decide) dX7_init_208 ?_
  refine m_iadd (pc := 209) a (z := 47) (by decide) dX7_init_209 ?_
  refine m_iconst (pc := 210) a dX7_init_210 ?_
  refine m_iadd (pc := 211) a (z := 48) (by decide) dX7_init_211 ?_
  refine m_iconst (pc := 212) a dX7_init_212 ?_
  refine m_iastS (pc := 213) a (Nat.le_of_ble_eq_true rfl) (by decide) (by decide) dX7_init_213 ?_
  refine m_iinc (pc := 214) a (y := 5) (ls1 := [(1, vI 5), (0, Value.ref h)]) 0 dX7_init_214 rfl (by decide) (by decide) rfl ?_
  refine m_goto (pc := 217) a dX7_init_217 (tgt := 180) (by decide) ?_
  refine m_iload_n (pc := 180) a 0 dX7_init_180 rfl rfl ?_
  refine m_bipush (pc := 181) a dX7_init_181 (by decide) ?_
  refine m_geF (pc := 183) a ⟨by decide, by decide⟩ ⟨by decide, by decide⟩ (by decide) dX7_init_183 (tgt := 220) (by decide) ?_
  refine m_aload_n (pc := 186) a 1 dX7_init_186 rfl rfl ?_
  refine m_get (pc := 187) a 0 hp vc7 w6 w5 (by decide) (v := Value.ref q1) rfl dX7_init_187 ?_
  refine m_bipush (pc := 190) a dX7_init_190 (by decide) ?_
  refine m_bipush (pc := 192) a dX7_init_192 (by decide) ?_
  refine m_iload_n (pc := 194) a 0 dX7_init_194 rfl rfl ?_
  refine m_imul (pc := 195) a (z := 40) (by decide) dX7_init_195 ?_
  refine m_iadd (pc := 196) a (z := 55) (by decide) dX7_init_196 ?_
  refine m_iload_n (pc := 197) a 0 dX7_init_197 rfl rfl ?_
  refine m_iastS (pc := 198) a (Nat.le_of_ble_eq_true rfl) (by decide) (by decide) dX7_init_198 ?_
  refine m_aload_n (pc := 199) a 1 dX7_init_199 rfl rfl ?_
  refine m_get (pc := 200) a 0 hp vc7 w6 w5 (by decide) (v := Value.ref q1) rfl dX7_init_200 ?_
  refine m_bipush (pc := 203) a dX7_init_203 (by decide) ?_
  refine m_bipush (pc := 205) a dX7_init_205 (by decide) ?_
  refine m_iload_n (pc := 207) a 0 dX7_init_207 rfl rfl ?_
  refine m_imul (pc := 208) a (z := 40) (by decide) dX7_init_208 ?_
  refine m_iadd (pc := 209) a (z := 55) (by decide) dX7_init_209 ?_
  refine m_iconst (pc := 210) a dX7_init_210 ?_
  refine m_iadd (pc := 211) a (z := 56) (by decide) dX7_init_211 ?_
  refine m_iconst (pc := 212) a dX7_init_212 ?_
  refine m_iastS (pc := 213) a (Nat.le_of_ble_eq_true rfl) (by decide) (by decide) dX7_init_213 ?_
  refine m_iinc (pc := 214) a (y := 6) (ls1 := [(1, vI 6), (0, Value.ref h)]) 0 dX7_init_214 rfl (by decide) (by decide) rfl ?_
  refine m_goto (pc := 217) a dX7_init_217 (tgt := 180) (by decide) ?_
  refine m_iload_n (pc := 180) a 0 dX7_init_180 rfl rfl ?_
  refine m_bipush (pc := 181) a dX7_init_181 (by decide) ?_
  refine m_geF (pc := 183) a ⟨by decide, by decide⟩ ⟨by decide, by decide⟩ (by decide) dX7_init_183 (tgt := 220) (by decide) ?_
  refine m_aload_n (pc := 186) a 1 dX7_init_186 rfl rfl ?_
  refine m_get (pc := 187) a 0 hp vc7 w6 w5 (by decide) (v := Value.ref q1) rfl dX7_init_187 ?_
  refine m_bipush (pc := 190) a dX7_init_190 (by decide) ?_
  refine m_bipush (pc := 192) a dX7_init_192 (by decide) ?_
  refine m_iload_n (pc := 194) a 0 dX7_init_194 rfl rfl ?_
  refine m_imul (pc := 195) a (z := 48) (by decide) dX7_init_195 ?_
  refine m_iadd (pc := 196) a (z := 63) (by decide) dX7_init_196 ?_
  refine m_iload_n (pc := 197) a 0 dX7_init_197 rfl rfl ?_
  refine m_iastS (pc := 198) a (Nat.le_of_ble_eq_true rfl) (by decide) (by decide) dX7_init_198 ?_
  refine m_aload_n (pc := 199) a 1 dX7_init_199 rfl rfl ?_
  refine m_get (pc := 200) a 0 hp vc7 w6 w5 (by decide) (v := Value.ref q1) rfl dX7_init_200 ?_
  refine m_bipush (pc := 203) a dX7_init_203 (by decide) ?_
  refine m_bipush (pc := 205) a dX7_init_205 (by decide) ?_
  refine m_iload_n (pc := 207) a 0 dX7_init_207 rfl rfl ?_
  refine m_imul (pc := 208) a (z := 48) (by decide) dX7_init_208 ?_
  refine m_iadd (pc := 209) a (z := 63) (by decide) dX7_init_209 ?_
  refine m_iconst (pc := 210) a dX7_init_210 ?_
  refine m_iadd (pc := 211) a (z := 64) (by decide) dX7_init_211 ?_
  refine m_iconst (pc := 212) a dX7_init_212 ?_
  refine m_iastS (pc := 213) a (Nat.le_of_ble_eq_true rfl) (by decide) (by decide) dX7_init_213 ?_
  refine m_iinc (pc := 214) a (y := 7) (ls1 := [(1, vI 7), (0, Value.ref h)]) 0 dX7_init_214 rfl (by decide) (by decide) rfl ?_
  refine m_goto (pc := 217) a dX7_init_217 (tgt := 180) (by decide) ?_
  refine m_iload_n (pc := 180) a 0 dX7_init_180 rfl rfl ?_
  refine m_bipush (pc := 181) a dX7_init_181 (by decide) ?_
  refine m_geF (pc := 183) a ⟨by decide, by decide⟩ ⟨by decide, by decide⟩ (by decide) dX7_init_183 (tgt := 220) (by decide) ?_
  refine m_aload_n (pc := 186) a 1 dX7_init_186 rfl rfl ?_
  refine m_get (pc := 187) a 0 hp vc7 w6 w5 (by decide) (v := Value.ref q1) rfl dX7_init_187 ?_
  refine m_bipush (pc := 190) a dX7_init_190 (by decide) ?_
  refine m_bipush (pc := 192) a dX7_init_192 (by decide) ?_
  refine m_iload_n (pc := 194) a 0 dX7_init_194 rfl rfl ?_
  refine m_imul (pc := 195) a (z := 56) (by decide) dX7_init_195 ?_
  refine m_iadd (pc := 196) a (z := 71) (by decide) dX7_init_196 ?_
  refine m_iload_n (pc := 197) a 0 dX7_init_197 rfl rfl ?_
  refine m_iastS (pc := 198) a (Nat.le_of_ble_eq_true rfl) (by decide) (by decide) dX7_init_198 ?_
  refine m_aload_n (pc := 199) a 1 dX7_init_199 rfl rfl ?_
  refine m_get (pc := 200) a 0 hp vc7 w6 w5 (by decide) (v := Value.ref q1) rfl dX7_init_200 ?_
  refine m_bipush (pc := 203) a dX7_init_203 (by decide) ?_
  refine m_bipush (pc := 205) a dX7_init_205 (by decide) ?_
  refine m_iload_n (pc := 207) a 0 dX7_init_207 rfl rfl ?_
  refine m_imul (pc := 208) a (z := 56) (by decide) dX7_init_208 ?_
  refine m_iadd (pc := 209) a (z := 71) (by decide) dX7_init_209 ?_
  refine m_iconst (pc := 210) a dX7_init_210 ?_
  refine m_iadd (pc := 211) a (z := 72) (by decide) dX7_init_211 ?_
  refine m_iconst (pc := 212) a dX7_init_212 ?_
  refine m_iastS (pc := 213) a (Nat.le_of_ble_eq_true rfl) (by decide) (by decide) dX7_init_213 ?_
  refine m_iinc (pc := 214) a (y := 8) (ls1 := [(1, vI 8), (0, Value.ref h)]) 0 dX7_init_214 rfl (by decide) (by decide) rfl ?_
  refine m_goto (pc := 217) a dX7_init_217 (tgt := 180) (by decide) ?_
  refine m_iload_n (pc := 180) a 0 dX7_init_180 rfl rfl ?_
  refine m_bipush (pc := 181) a dX7_init_181 (by decide) ?_
  refine m_geF (pc := 183) a ⟨by decide, by decide⟩ ⟨by decide, by decide⟩ (by decide) dX7_init_183 (tgt := 220) (by decide) ?_
  refine m_aload_n (pc := 186) a 1 dX7_init_186 rfl rfl ?_
  refine m_get (pc := 187) a 0 hp vc7 w6 w5 (by decide) (v := Value.ref q1) rfl dX7_init_187 ?_
  refine m_bipush (pc := 190) a dX7_init_190 (by decide) ?_
  refine m_bipush (pc := 192) a dX7_init_192 (by decide) ?_
  refine m_iload_n (pc := 194) a 0 dX7_init_194 rfl rfl ?_
  refine m_imul (pc := 195) a (z := 64) (by decide) dX7_init_195 ?_
  refine m_iadd (pc := 196) a (z := 79) (by decide) dX7_init_196 ?_
  refine m_iload_n (pc := 197) a 0 dX7_init_197 rfl rfl ?_
  refine m_iastS (pc := 198) a (Nat.le_of_ble_eq_true rfl) (by decide) (by decide) dX7_init_198 ?_
  refine m_aload_n (pc := 199) a 1 dX7_init_199 rfl rfl ?_
  refine m_get (pc := 200) a 0 hp vc7 w6 w5 (by decide) (v := Value.ref q1) rfl dX7_init_200 ?_
  refine m_bipush (pc := 203) a dX7_init_203 (by decide) ?_
  refine m_bipush (pc := 205) a dX7_init_205 (by decide) ?_
  refine m_iload_n (pc := 207) a 0 dX7_init_207 rfl rfl ?_
  refine m_imul (pc := 208) a (z := 64) (by decide) dX7_init_208 ?_
  refine m_iadd (pc := 209) a (z := 79) (by decide) dX7_init_209 ?_
  refine m_iconst (pc := 210) a dX7_init_210 ?_
  refine m_iadd (pc := 211) a (z := 80) (by decide) dX7_init_211 ?_
  refine m_iconst (pc := 212) a dX7_init_212 ?_
  refine m_iastS (pc := 213) a (Nat.le_of_ble_eq_true rfl) (by decide) (by decide) dX7_init_213 ?_
  refine m_iinc (pc := 214) a (y := 9) (ls1 := [(1, vI 9), (0, Value.ref h)]) 0 dX7_init_214 rfl (by decide) (by decide) rfl ?_
  refine m_goto (pc := 217) a dX7_init_217 (tgt := 180) (by decide) ?_
  refine m_iload_n (pc := 180) a 0 dX7_init_180 rfl rfl ?_
  refine m_bipush (pc := 181) a dX7_init_181 (by decide) ?_
  refine m_geF (pc := 183) a ⟨by decide, by decide⟩ ⟨by decide, by decide⟩ (by decide) dX7_init_183 (tgt := 220) (by decide) ?_
  refine m_aload_n (pc := 186) a 1 dX7_init_186 rfl rfl ?_
  refine m_get (pc := 187) a 0 hp vc7 w6 w5 (by decide) (v := Value.ref q1) rfl dX7_init_187 ?_
  refine m_bipush (pc := 190) a dX7_init_190 (by decide) ?_
  refine m_bipush (pc := 192) a dX7_init_192 (by decide) ?_
  refine m_iload_n (pc := 194) a 0 dX7_init_194 rfl rfl ?_
  refine m_imul (pc := 195) a (z := 72) (by decide) dX7_init_195 ?_
  refine m_iadd (pc := 196) a (z := 87) (by decide) dX7_init_196 ?_
  refine m_iload_n (pc := 197) a 0 dX7_init_197 rfl rfl ?_
  refine m_iastS (pc := 198) a (Nat.le_of_ble_eq_true rfl) (by decide) (by decide) dX7_init_198 ?_
  refine m_aload_n (pc := 199) a 1 dX7_init_199 rfl rfl ?_
  refine m_get (pc := 200) a 0 hp vc7 w6 w5 (by decide) (v := Value.ref q1) rfl dX7_init_200 ?_
  refine m_bipush (pc := 203) a dX7_init_203 (by decide) ?_
  refine m_bipush (pc := 205) a dX7_init_205 (by decide) ?_
  refine m_iload_n (pc := 207) a 0 dX7_init_207 rfl rfl ?_
  refine m_imul (pc := 208) a (z := 72) (by decide) dX7_init_208 ?_
  refine m_iadd (pc := 209) a (z := 87) (by decide) dX7_init_209 ?_
  refine m_iconst (pc := 210) a dX7_init_210 ?_
  refine m_iadd (pc := 211) a (z := 88) (by decide) dX7_init_211 ?_
  refine m_iconst (pc := 212) a dX7_init_212 ?_
  refine m_iastS (pc := 213) a (Nat.le_of_ble_eq_true rfl) (by decide) (by decide) dX7_init_213 ?_
  refine m_iinc (pc := 214) a (y := 10) (ls1 := [(1, vI 10), (0, Value.ref h)]) 0 dX7_init_214 rfl (by decide) (by decide) rfl ?_
  refine m_goto (pc := 217) a dX7_init_217 (tgt := 180) (by decide) ?_
  refine m_iload_n (pc := 180) a 0 dX7_init_180 rfl rfl ?_
  refine m_bipush (pc := 181) a dX7_init_181 (by decide) ?_
  refine m_geF (pc := 183) a ⟨by decide, by decide⟩ ⟨by decide, by decide⟩ (by decide) dX7_init_183 (tgt := 220) (by decide) ?_
  refine m_aload_n (pc := 186) a 1 dX7_init_186 rfl rfl ?_
  refine m_get (pc := 187) a 0 hp vc7 w6 w5 (by decide) (v := Value.ref q1) rfl dX7_init_187 ?_
  refine m_bipush (pc := 190) a dX7_init_190 (by decide) ?_
  refine m_bipush (pc := 192) a dX7_init_192 (by decide) ?_
  refine m_iload_n (pc := 194) a 0 dX7_init_194 rfl rfl ?_
  refine m_imul (pc := 195) a (z := 80) (by decide) dX7_init_195 ?_
  refine m_iadd (pc := 196) a (z := 95) (by decide) dX7_init_196 ?_
  refine m_iload_n (pc := 197) a 0 dX7_init_197 rfl rfl ?_
  refine m_iastS (pc := 198) a (Nat.le_of_ble_eq_true rfl) (by decide) (by decide) dX7_init_198 ?_
  refine m_aload_n (pc := 199) a 1 dX7_init_199 rfl rfl ?_
  refine m_get (pc := 200) a 0 hp vc7 w6 w5 (by decide) (v := Value.ref q1) rfl dX7_init_200 ?_
  refine m_bipush (pc := 203) a dX7_init_203 (by decide) ?_
  refine m_bipush (pc := 205) a dX7_init_205 (by decide) ?_
  refine m_iload_n (pc := 207) a 0 dX7_init_207 rfl rfl ?_
  refine m_imul (pc := 208) a (z := 80) (by decide) dX7_init_208 ?_
  refine m_iadd (pc := 209) a (z := 95) (by decide) dX7_init_209 ?_
  refine m_iconst (pc := 210) a dX7_init_210 ?_
  refine m_iadd (pc := 211) a (z := 96) (by decide) dX7_init_211 ?_
  refine m_iconst (pc := 212) a dX7_init_212 ?_
  refine m_iastS (pc := 213) a (Nat.le_of_ble_eq_true rfl) (by decide) (by decide) dX7_init_213 ?_
  refine m_iinc (pc := 214) a (y := 11) (ls1 := [(1, vI 11), (0, Value.ref h)]) 0 dX7_init_214 rfl (by decide) (by decide) rfl ?_
  refine m_goto (pc := 217) a dX7_init_217 (tgt := 180) (by decide) ?_
  refine m_iload_n (pc := 180) a 0 dX7_init_180 rfl rfl ?_
  refine m_bipush (pc := 181) a dX7_init_181 (by decide) ?_
  refine m_geF (pc := 183) a ⟨by decide, by decide⟩ ⟨by decide, by decide⟩ (by decide) dX7_init_183 (tgt := 220) (by decide) ?_
  refine m_aload_n (pc := 186) a 1 dX7_init_186 rfl rfl ?_
  refine m_get (pc := 187) a 0 hp vc7 w6 w5 (by decide) (v := Value.ref q1) rfl dX7_init_187 ?_
  refine m_bipush (pc := 190) a dX7_init_190 (by decide) ?_
  refine m_bipush (pc := 192) a dX7_init_192 (by decide) ?_
  refine m_iload_n (pc := 194) a 0 dX7_init_194 rfl rfl ?_
  refine m_imul (pc := 195) a (z := 88) (by decide) dX7_init_195 ?_
  refine m_iadd (pc := 196) a (z := 103) (by decide) dX7_init_196 ?_
  refine m_iload_n (pc := 197) a 0 dX7_init_197 rfl rfl ?_
  refine m_iastS (pc := 198) a (Nat.le_of_ble_eq_true rfl) (by decide) (by decide) dX7_init_198 ?_
  refine m_aload_n (pc := 199) a 1 dX7_init_199 rfl rfl ?_
  refine m_get (pc := 200) a 0 hp vc7 w6 w5 (by decide) (v := Value.ref q1) rfl dX7_init_200 ?_
  refine m_bipush (pc := 203) a dX7_init_203 (by decide) ?_
  refine m_bipush (pc := 205) a dX7_init_205 (by decide) ?_
  refine m_iload_n (pc := 207) a 0 dX7_init_207 rfl rfl ?_
  refine m_imul (pc := 208) a (z := 88) (by decide) dX7_init_208 ?_
  refine m_iadd (pc := 209) a (z := 103) (by decide) dX7_init_209 ?_
  refine m_iconst (pc := 210) a dX7_init_210 ?_
  refine m_iadd (pc := 211) a (z := 104) (by decide) dX7_init_211 ?_
  refine m_iconst (pc := 212) a dX7_init_212 ?_
  refine m_iastS (pc := 213) a (Nat.le_of_ble_eq_true rfl) (by decide) (by decide) dX7_init_213 ?_
  refine m_iinc (pc := 214) a (y := 12) (ls1 := [(1, vI 12), (0, Value.ref h)]) 0 dX7_init_214 rfl (by decide) (by decide) rfl ?_
  refine m_goto (pc := 217) a dX7_init_217 (tgt := 180) (by decide) ?_
  refine m_iload_n (pc := 180) a 0 dX7_init_180 rfl rfl ?_
  refine m_bipush (pc := 181) a dX7_init_181 (by decide) ?_
  refine m_geT (pc := 183) a ⟨by decide, by decide⟩ ⟨by decide, by decide⟩ (by decide) dX7_init_183 (tgt := 220) (by decide) ?_
  exact m_ret (pc := 220) a (fun k => ([h, q1, q2, q3, q4, q5, q6, q7, q8, q9, q10, q11, q12, q13, q14] : List Nat).getD k 0) hr (Nat.le_of_ble_eq_true rfl) (Nat.le_of_ble_eq_true rfl) rfl dX7_init_220

