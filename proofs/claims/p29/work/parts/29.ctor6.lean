set_option maxRecDepth 100000 in
set_option maxHeartbeats 4000000 in
theorem c_X6_init {l : Launch} {D : va_G} {X : XI} (hl0 : l.stackTraces = false) {ws : va_W} {pp h : Nat} (h0 : ws[pp]? = some (h, .inr (6, [Value.null, Value.null, Value.null, Value.null, Value.null, Value.null, vI 0, vI 0]))) (sz : Nat) : Met l yX6_init (WW (.code yX6_init cX6_init 2 none)) { frames := 3, cells := 160, slots := 5850, locals := 53 } (va_Pc [.ref h] (WC D X ws sz)) (QC D (va_A ws sz) (fun u => OW ws pp h 6 (slF (uu h u) 0) (slA X (uu h u) 0))) 160 5850 (va_A ws sz) := by
  have hp : pp < ws.length := (List.getElem?_eq_some_iff.mp h0).1
  refine m_start (own := RX6) (cc := cX6_init) (maxL := 2) (by decide) rfl rfl rfl (Nat.le_of_ble_eq_true rfl) ?_
  intro p e s m below meth c a hr hn hsz
  have hts := a.1.2.2.2.2
  have w1 := hts (Cond.methodLink RX6 1 objectInit) (List.mem_cons_of_mem _ (GL_1 _ (by decide +kernel)))
  have w2 := hts (Cond.instanceMethod objectInit) (List.mem_cons_of_mem _ (GL_1 _ (by decide +kernel)))
  have w3 := hts (Cond.code objectInit ⟨#[0xb1]⟩ 1 none) (List.mem_cons_of_mem _ (GL_1 _ (by decide +kernel)))
  have w4 : ∀ w ∈ u_ws RX3 TX3 13, w ∈ WW (.code yX6_init cX6_init 2 none) := fun w h => List.mem_cons_of_mem _ (inlX3 w h)
  have w5 := hts (Cond.classLink RX6 7 RX3) (List.mem_cons_of_mem _ (GL_1 _ (by decide +kernel)))
  have w6 := hts (Cond.instantiable RX3 13) (List.mem_cons_of_mem _ (GL_1 _ (by decide +kernel)))
  have w7 := hts (Cond.initialized RX3) (List.mem_cons_of_mem _ (GL_1 _ (by decide +kernel)))
  have w8 := hts (Cond.methodLink RX6 9 yX3_init) (List.mem_cons_of_mem _ (GL_2 _ (by decide +kernel)))
  have w9 := hts (Cond.instanceMethod yX3_init) (List.mem_cons_of_mem _ (GL_2 _ (by decide +kernel)))
  have w10 := hts (Cond.fieldLink RX6 10 "SightLegend" "map" "LSightLegend$MapState;") (List.mem_cons_of_mem _ (GL_1 _ (by decide +kernel)))
  have w11 : ∀ w ∈ u_ws RX6 TX6 8, w ∈ WW (.code yX6_init cX6_init 2 none) := fun w h => List.mem_cons_of_mem _ (inlX6 w h)
  have w12 : ∀ w ∈ u_ws RX1 TX1 12, w ∈ WW (.code yX6_init cX6_init 2 none) := fun w h => List.mem_cons_of_mem _ (inlX1 w h)
  have w13 := hts (Cond.classLink RX6 16 RX1) (List.mem_cons_of_mem _ (GL_1 _ (by decide +kernel)))
  have w14 := hts (Cond.instantiable RX1 12) (List.mem_cons_of_mem _ (GL_1 _ (by decide +kernel)))
  have w15 := hts (Cond.initialized RX1) (List.mem_cons_of_mem _ (GL_1 _ (by decide +kernel)))
  have w16 := hts (Cond.instanceMethod yX1_init) (List.mem_cons_of_mem _ (GL_2 _ (by decide +kernel)))
  have w17 := hts (Cond.fieldLink RX6 19 "SightLegend" "legend" "LSightLegend$Legend;") (List.mem_cons_of_mem _ (GL_1 _ (by decide +kernel)))
  have w18 := hts (Cond.fieldLink RX6 23 "SightLegend" "otherMap" "LSightLegend$MapState;") (List.mem_cons_of_mem _ (GL_1 _ (by decide +kernel)))
  have w19 := hts (Cond.fieldLink RX6 26 "SightLegend" "otherLegend" "LSightLegend$Legend;") (List.mem_cons_of_mem _ (GL_1 _ (by decide +kernel)))
  have w20 : ∀ w ∈ u_ws RX5 TX5 5, w ∈ WW (.code yX6_init cX6_init 2 none) := fun w h => List.mem_cons_of_mem _ (inlX5 w h)
  have w21 := hts (Cond.classLink RX6 29 RX5) (List.mem_cons_of_mem _ (GL_1 _ (by decide +kernel)))
  have w22 := hts (Cond.instantiable RX5 5) (List.mem_cons_of_mem _ (GL_1 _ (by decide +kernel)))
  have w23 := hts (Cond.initialized RX5) (List.mem_cons_of_mem _ (GL_1 _ (by decide +kernel)))
  have w24 := hts (Cond.instanceMethod yX5_init) (List.mem_cons_of_mem _ (GL_4 _ (by decide +kernel)))
  have w25 := hts (Cond.fieldLink RX6 32 "SightLegend" "text" "LSightLegend$SignText;") (List.mem_cons_of_mem _ (GL_2 _ (by decide +kernel)))
  have w26 := hts (Cond.fieldLink RX6 36 "SightLegend" "saved" "[LSightLegend$MapState;") (List.mem_cons_of_mem _ (GL_2 _ (by decide +kernel)))
  refine m_eq (ws1 := OW ws pp h 6 [Value.null, Value.null, Value.null, Value.null, Value.null, Value.null, vI 0, vI 0] []) (ow_init h0) ?_
  refine m_aload_n (pc := 0) a 0 dX6_init_0 rfl rfl ?_
  refine m_obj (pc := 1) a w1 w2 w3 (Nat.le_of_ble_eq_true rfl) (Nat.le_of_ble_eq_true rfl) dX6_init_1 ?_
  refine m_aload_n (pc := 4) a 0 dX6_init_4 rfl rfl ?_
  refine m_new (pc := 5) a w4 tyX3 tyX3_ok w5 w6 w7 vc3 (gs := [Value.null, Value.null, Value.null, Value.null, Value.null, vI 0, Value.null, Value.null, Value.null, Value.null, Value.null, Value.null, Value.null]) (by decide +kernel) (Nat.le_of_ble_eq_true rfl) (Nat.le_of_ble_eq_true rfl) dX6_init_5 (fun q1 => ?_)
  refine m_dup (pc := 8) a rfl dX6_init_8 ?_
  refine m_call (pc := 9) a (fun sz => c_X3_init hl0 (h := q1) ow_last sz) (cwI 0 hts (gl_W (GL_2 _ (by decide +kernel))) rfl rfl rfl w7 w8 w9 rfl (by decide +kernel) ⟨Nat.le_of_ble_eq_true rfl, Nat.le_of_ble_eq_true rfl⟩) (Nat.le_of_ble_eq_true rfl) ⟨Nat.le_of_ble_eq_true rfl, Nat.le_of_ble_eq_true rfl⟩ dX6_init_9 (fun u2 => ?_)
  refine m_putF (pc := 12) a 0 hp vc6 w11 w10 (by decide) tyX6 tyX6_ok nmX6 rfl hn rfl (ty := tyX6 0) (tyX6_ok 0 (by decide)) rfl rfl (Nat.le_of_ble_eq_true rfl) dX6_init_12 ?_
  refine m_aload_n (pc := 15) a 0 dX6_init_15 rfl rfl ?_
  refine m_new (pc := 16) a w12 tyX1 tyX1_ok w13 w14 w15 vc1 (gs := [vI 0, Value.null, Value.null, vI 0, vI 0, Value.null, Value.null, Value.null, Value.null, vI 0, vI 0, vI 0]) (by decide +kernel) (Nat.le_of_ble_eq_true rfl) (Nat.le_of_ble_eq_true rfl) dX6_init_16 (fun q3 => ?_)
  refine m_dup (pc := 19) a rfl dX6_init_19 ?_
  refine m_callN (pc := 20) a (fun sz => c_X1_init hl0 (h := q3) ow_last sz) ⟨va_cnB 0 hts (gl_W (GL_2 _ (by decide +kernel))) rfl rfl rfl a.2.2.2.2.2.1 w15 (by decide +kernel) ⟨Nat.le_of_ble_eq_true rfl, Nat.le_of_ble_eq_true rfl⟩, rfl, w16⟩ (Nat.le_of_ble_eq_true rfl) ⟨Nat.le_of_ble_eq_true rfl, Nat.le_of_ble_eq_true rfl⟩ dX6_init_20 (fun u4 => ?_)
  refine m_putF (pc := 23) a 1 hp vc6 w11 w17 (by decide) tyX6 tyX6_ok nmX6 rfl hn rfl (ty := tyX6 1) (tyX6_ok 1 (by decide)) rfl rfl (Nat.le_of_ble_eq_true rfl) dX6_init_23 ?_
  refine m_aload_n (pc := 26) a 0 dX6_init_26 rfl rfl ?_
  refine m_new (pc := 27) a w4 tyX3 tyX3_ok w5 w6 w7 vc3 (gs := [Value.null, Value.null, Value.null, Value.null, Value.null, vI 0, Value.null, Value.null, Value.null, Value.null, Value.null, Value.null, Value.null]) (by decide +kernel) (Nat.le_of_ble_eq_true rfl) (Nat.le_of_ble_eq_true rfl) dX6_init_27 (fun q5 => ?_)
  refine m_dup (pc := 30) a rfl dX6_init_30 ?_
  refine m_call (pc := 31) a (fun sz => c_X3_init hl0 (h := q5) ow_last sz) (cwI 0 hts (gl_W (GL_2 _ (by decide +kernel))) rfl rfl rfl w7 w8 w9 rfl (by decide +kernel) ⟨Nat.le_of_ble_eq_true rfl, Nat.le_of_ble_eq_true rfl⟩) (Nat.le_of_ble_eq_true rfl) ⟨Nat.le_of_ble_eq_true rfl, Nat.le_of_ble_eq_true rfl⟩ dX6_init_31 (fun u6 => ?_)
  refine m_putF (pc := 34) a 2 hp vc6 w11 w18 (by decide) tyX6 tyX6_ok nmX6 rfl hn rfl (ty := tyX6 2) (tyX6_ok 2 (by decide)) rfl rfl (Nat.le_of_ble_eq_true rfl) dX6_init_34 ?_
  refine m_aload_n (pc := 37) a 0 dX6_init_37 rfl rfl ?_
  refine m_new (pc := 38) a w12 tyX1 tyX1_ok w13 w14 w15 vc1 (gs := [vI 0, Value.null, Value.null, vI 0, vI 0, Value.null, Value.null, Value.null, Value.null, vI 0, vI 0, vI 0]) (by decide +kernel) (Nat.le_of_ble_eq_true rfl) (Nat.le_of_ble_eq_true rfl) dX6_init_38 (fun q7 => ?_)
  refine m_dup (pc := 41) a rfl dX6_init_41 ?_
  refine m_callN (pc := 42) a (fun sz => c_X1_init hl0 (h := q7) ow_last sz) ⟨va_cnB 0 hts (gl_W (GL_2 _ (by decide +kernel))) rfl rfl rfl a.2.2.2.2.2.1 w15 (by decide +kernel) ⟨Nat.le_of_ble_eq_true rfl, Nat.le_of_ble_eq_true rfl⟩, rfl, w16⟩ (Nat.le_of_ble_eq_true rfl) ⟨Nat.le_of_ble_eq_true rfl, Nat.le_of_ble_eq_true rfl⟩ dX6_init_42 (fun u8 => ?_)
  refine m_putF (pc := 45) a 3 hp vc6 w11 w19 (by decide) tyX6 tyX6_ok nmX6 rfl hn rfl (ty := tyX6 3) (tyX6_ok 3 (by decide)) rfl rfl (Nat.le_of_ble_eq_true rfl) dX6_init_45 ?_
  refine m_aload_n (pc := 48) a 0 dX6_init_48 rfl rfl ?_
  refine m_new (pc := 49) a w20 tyX5 tyX5_ok w21 w22 w23 vc5 (gs := [Value.null, vI 0, Value.null, vI 0, vI 0]) (by decide +kernel) (Nat.le_of_ble_eq_true rfl) (Nat.le_of_ble_eq_true rfl) dX6_init_49 (fun q9 => ?_)
  refine m_dup (pc := 52) a rfl dX6_init_52 ?_
  refine m_callN (pc := 53) a (fun sz => c_X5_init hl0 (h := q9) ow_last sz) ⟨va_cnB 0 hts (gl_W (GL_4 _ (by decide +kernel))) rfl rfl rfl a.2.2.2.2.2.2.1 w23 (by decide +kernel) ⟨Nat.le_of_ble_eq_true rfl, Nat.le_of_ble_eq_true rfl⟩, rfl, w24⟩ (Nat.le_of_ble_eq_true rfl) ⟨Nat.le_of_ble_eq_true rfl, Nat.le_of_ble_eq_true rfl⟩ dX6_init_53 (fun u10 => ?_)
  refine m_putF (pc := 56) a 4 hp vc6 w11 w25 (by decide) tyX6 tyX6_ok nmX6 rfl hn rfl (ty := tyX6 4) (tyX6_ok 4 (by decide)) rfl rfl (Nat.le_of_ble_eq_true rfl) dX6_init_56 ?_
  refine m_aload_n (pc := 59) a 0 dX6_init_59 rfl rfl ?_
  refine m_iconst (pc := 60) a dX6_init_60 ?_
  refine m_newq (pc := 61) a (n := 4) rfl (by decide) w5 a.2.2.2.2.1 (Nat.le_of_ble_eq_true rfl) (Nat.le_of_ble_eq_true rfl) dX6_init_61 (fun q11 => ?_)
  refine m_putF (pc := 64) a 5 hp vc6 w11 w26 (by decide) tyX6 tyX6_ok nmX6 rfl hn rfl (ty := tyX6 5) (tyX6_ok 5 (by decide)) rfl rfl (Nat.le_of_ble_eq_true rfl) dX6_init_64 ?_
  refine m_iconst (pc := 67) a dX6_init_67 ?_
  refine m_istore_n (pc := 68) a (ls1 := [(1, vI 0), (0, Value.ref h)]) dX6_init_68 rfl (by decide) rfl ?_
  refine m_iload_n (pc := 69) a 0 dX6_init_69 rfl rfl ?_
  refine m_iconst (pc := 70) a dX6_init_70 ?_
  refine m_geF (pc := 71) a ⟨by decide, by decide⟩ ⟨by decide, by decide⟩ (by decide) dX6_init_71 (tgt := 93) (by decide) ?_
  refine m_aload_n (pc := 74) a 1 dX6_init_74 rfl rfl ?_
  refine m_get (pc := 75) a 5 hp vc6 w11 w26 (by decide) (v := Value.ref q11) rfl dX6_init_75 ?_
  refine m_iload_n (pc := 78) a 0 dX6_init_78 rfl rfl ?_
  refine m_new (pc := 79) a w4 tyX3 tyX3_ok w5 w6 w7 vc3 (gs := [Value.null, Value.null, Value.null, Value.null, Value.null, vI 0, Value.null, Value.null, Value.null, Value.null, Value.null, Value.null, Value.null]) (by decide +kernel) (Nat.le_of_ble_eq_true rfl) (Nat.le_of_ble_eq_true rfl) dX6_init_79 (fun q12 => ?_)
  refine m_dup (pc := 82) a rfl dX6_init_82 ?_
  refine m_call (pc := 83) a (fun sz => c_X3_init hl0 (h := q12) ow_last sz) (cwI 0 hts (gl_W (GL_2 _ (by decide +kernel))) rfl rfl rfl w7 w8 w9 rfl (by decide +kernel) ⟨Nat.le_of_ble_eq_true rfl, Nat.le_of_ble_eq_true rfl⟩) (Nat.le_of_ble_eq_true rfl) ⟨Nat.le_of_ble_eq_true rfl, Nat.le_of_ble_eq_true rfl⟩ dX6_init_83 (fun u13 => ?_)
  refine m_astq (pc := 86) a (by decide) dX6_init_86 ?_
  refine m_iinc (pc := 87) a (y := 1) (ls1 := [(1, vI 1), (0, Value.ref h)]) 0 dX6_init_87 rfl (by decide) (by decide) rfl ?_
  refine m_goto (pc := 90) a dX6_init_90 (tgt := 69) (by decide) ?_
  refine m_iload_n (pc := 69) a 0 dX6_init_69 rfl rfl ?_
  refine m_iconst (pc := 70) a dX6_init_70 ?_
  refine m_geF (pc := 71) a ⟨by decide, by decide⟩ ⟨by decide, by decide⟩ (by decide) dX6_init_71 (tgt := 93) (by decide) ?_
  refine m_aload_n (pc := 74) a 1 dX6_init_74 rfl rfl ?_
  refine m_get (pc := 75) a 5 hp vc6 w11 w26 (by decide) (v := Value.ref q11) rfl dX6_init_75 ?_
  refine m_iload_n (pc := 78) a 0 dX6_init_78 rfl rfl ?_
  refine m_new (pc := 79) a w4 tyX3 tyX3_ok w5 w6 w7 vc3 (gs := [Value.null, Value.null, Value.null, Value.null, Value.null, vI 0, Value.null, Value.null, Value.null, Value.null, Value.null, Value.null, Value.null]) (by decide +kernel) (Nat.le_of_ble_eq_true rfl) (Nat.le_of_ble_eq_true rfl) dX6_init_79 (fun q14 => ?_)
  refine m_dup (pc := 82) a rfl dX6_init_82 ?_
  refine m_call (pc := 83) a (fun sz => c_X3_init hl0 (h := q14) ow_last sz) (cwI 0 hts (gl_W (GL_2 _ (by decide +kernel))) rfl rfl rfl w7 w8 w9 rfl (by decide +kernel) ⟨Nat.le_of_ble_eq_true rfl, Nat.le_of_ble_eq_true rfl⟩) (Nat.le_of_ble_eq_true rfl) ⟨Nat.le_of_ble_eq_true rfl, Nat.le_of_ble_eq_true rfl⟩ dX6_init_83 (fun u15 => ?_)
  refine m_astq (pc := 86) a (by decide) dX6_init_86 ?_
  refine m_iinc (pc := 87) a (y := 2) (ls1 := [(1, vI 2), (0, Value.ref h)]) 0 dX6_init_87 rfl (by decide) (by decide) rfl ?_
  refine m_goto (pc := 90) a dX6_init_90 (tgt := 69) (by decide) ?_
  refine m_iload_n (pc := 69) a 0 dX6_init_69 rfl rfl ?_
  refine m_iconst (pc := 70) a dX6_init_70 ?_
  refine m_geF (pc := 71) a ⟨by decide, by decide⟩ ⟨by decide, by decide⟩ (by decide) dX6_init_71 (tgt := 93) (by decide) ?_
  refine m_aload_n (pc := 74) a 1 dX6_init_74 rfl rfl ?_
  refine m_get (pc := 75) a 5 hp vc6 w11 w26 (by decide) (v := Value.ref q11) rfl dX6_init_75 ?_
  refine m_iload_n (pc := 78) a 0 dX6_init_78 rfl rfl ?_
  refine m_new (pc := 79) a w4 tyX3 tyX3_ok w5 w6 w7 vc3 (gs := [Value.null, Value.null, Value.null, Value.null, Value.null, vI 0, Value.null, Value.null, Value.null, Value.null, Value.null, Value.null, Value.null]) (by decide +kernel) (Nat.le_of_ble_eq_true rfl) (Nat.le_of_ble_eq_true rfl) dX6_init_79 (fun q16 => ?_)
  refine m_dup (pc := 82) a rfl dX6_init_82 ?_
  refine m_call (pc := 83) a (fun sz => c_X3_init hl0 (h := q16) ow_last sz) (cwI 0 hts (gl_W (GL_2 _ (by decide +kernel))) rfl rfl rfl w7 w8 w9 rfl (by decide +kernel) ⟨Nat.le_of_ble_eq_true rfl, Nat.le_of_ble_eq_true rfl⟩) (Nat.le_of_ble_eq_true rfl) ⟨Nat.le_of_ble_eq_true rfl, Nat.le_of_ble_eq_true rfl⟩ dX6_init_83 (fun u17 => ?_)
  refine m_astq (pc := 86) a (by decide) dX6_init_86 ?_
  refine m_iinc (pc := 87) a (y := 3) (ls1 := [(1, vI 3), (0, Value.ref h)]) 0 dX6_init_87 rfl (by decide) (by decide) rfl ?_
  refine m_goto (pc := 90) a dX6_init_90 (tgt := 69) (by decide) ?_
  refine m_iload_n (pc := 69) a 0 dX6_init_69 rfl rfl ?_
  refine m_iconst (pc := 70) a dX6_init_70 ?_
  refine m_geF (pc := 71) a ⟨by decide, by decide⟩ ⟨by decide, by decide⟩ (by decide) dX6_init_71 (tgt := 93) (by decide) ?_
  refine m_aload_n (pc := 74) a 1 dX6_init_74 rfl rfl ?_
  refine m_get (pc := 75) a 5 hp vc6 w11 w26 (by decide) (v := Value.ref q11) rfl dX6_init_75 ?_
  refine m_iload_n (pc := 78) a 0 dX6_init_78 rfl rfl ?_
  refine m_new (pc := 79) a w4 tyX3 tyX3_ok w5 w6 w7 vc3 (gs := [Value.null, Value.null, Value.null, Value.null, Value.null, vI 0, Value.null, Value.null, Value.null, Value.null, Value.null, Value.null, Value.null]) (by decide +kernel) (Nat.le_of_ble_eq_true rfl) (Nat.le_of_ble_eq_true rfl) dX6_init_79 (fun q18 => ?_)
  refine m_dup (pc := 82) a rfl dX6_init_82 ?_
  refine m_call (pc := 83) a (fun sz => c_X3_init hl0 (h := q18) ow_last sz) (cwI 0 hts (gl_W (GL_2 _ (by decide +kernel))) rfl rfl rfl w7 w8 w9 rfl (by decide +kernel) ⟨Nat.le_of_ble_eq_true rfl, Nat.le_of_ble_eq_true rfl⟩) (Nat.le_of_ble_eq_true rfl) ⟨Nat.le_of_ble_eq_true rfl, Nat.le_of_ble_eq_true rfl⟩ dX6_init_83 (fun u19 => ?_)
  refine m_astq (pc := 86) a (by decide) dX6_init_86 ?_
  refine m_iinc (pc := 87) a (y := 4) (ls1 := [(1, vI 4), (0, Value.ref h)]) 0 dX6_init_87 rfl (by decide) (by decide) rfl ?_
  refine m_goto (pc := 90) a dX6_init_90 (tgt := 69) (by decide) ?_
  refine m_iload_n (pc := 69) a 0 dX6_init_69 rfl rfl ?_
  refine m_iconst (pc := 70) a dX6_init_70 ?_
  refine m_geT (pc := 71) a ⟨by decide, by decide⟩ ⟨by decide, by decide⟩ (by decide) dX6_init_71 (tgt := 93) (by decide) ?_
  refine m_ret (pc := 93) a (wz6 q1 q3 q5 q7 q9 q11 q12 q14 q16 q18 u2 u4 u6 u8 u10 u13 u15 u17 u19) hr (Nat.le_of_ble_eq_true rfl) (Nat.le_of_ble_eq_true rfl) ?_ dX6_init_93
  rw [slF_eq, slA_eq]
  simp only [List.append_assoc, List.nil_append]
  rfl
