set_option maxRecDepth 100000 in
set_option maxHeartbeats 4000000 in
theorem c_X0_vanish {l : Launch} {D : va_G} {X : XI} {ad : Nat → Nat} (hinj : adI ad) (hl0 : l.stackTraces = false) {b : Nat} (tb : tyc b (4, 0)) {σ : St} {K : St → Prop} (h : f_X0_vanish b σ K) (sz : Nat) : Met l yX0_vanish (WW (.code yX0_vanish cX0_vanish 1 none)) { frames := 0, cells := 0, slots := 0, locals := 0 } (va_Pc [Value.ref (ad b)] (WD D X ad σ sz)) (QV D X ad sz K) 0 0 (AA ad sz) := by
  refine a_start (cc := cX0_vanish) (maxL := 1) (ret := none) (own := RX0) [Value.ref (ad b)] (by decide) rfl rfl (Nat.le_of_ble_eq_true rfl) hinj hl0 ?_
  intro p e s m below meth c a hr hsz
  subst hsz
  have hts := a.1.2.2.2.2
  have w1 := hts (Cond.fieldLink RX0 58 "SightLegend$Box" "corner" "I") (List.mem_cons_of_mem _ (GL_8 _ (by decide +kernel)))
  have w2 : ∀ w ∈ u_ws RX0 TX0 6, w ∈ WW (.code yX0_vanish cX0_vanish 1 none) := fun w h => List.mem_cons_of_mem _ (inlX0 w h)
  have w3 := hts (Cond.fieldLink RX0 61 "SightLegend$Box" "left" "I") (List.mem_cons_of_mem _ (GL_8 _ (by decide +kernel)))
  have w4 := hts (Cond.fieldLink RX0 64 "SightLegend$Box" "top" "I") (List.mem_cons_of_mem _ (GL_8 _ (by decide +kernel)))
  have w5 := hts (Cond.fieldLink RX0 38 "SightLegend$Box" "width" "I") (List.mem_cons_of_mem _ (GL_8 _ (by decide +kernel)))
  have w6 := hts (Cond.fieldLink RX0 44 "SightLegend$Box" "height" "I") (List.mem_cons_of_mem _ (GL_8 _ (by decide +kernel)))
  have w7 := hts (Cond.fieldLink RX0 55 "SightLegend$Box" "covered" "I") (List.mem_cons_of_mem _ (GL_12 _ (by decide +kernel)))
  unfold f_X0_vanish at h
  refine a_sub (ls1 := [(0, Value.ref (ad b))]) [0] rfl ?_
  refine a_aload_n (pc := 0) a 0 dX0_vanish_0 rfl rfl ?_
  refine a_iconst (pc := 1) a dX0_vanish_1 ?_
  refine a_putI (pc := 2) a 0 0 rfl tb vc0 w2 w1 (by decide) (by decide) tyX0 tyX0_ok nmX0 rfl rfl (by decide +kernel) dX0_vanish_2 ?_
  refine a_nmS (fun s1 hx => ?_)
  replace h := h s1 hx
  clear hx
  refine a_aload_n (pc := 5) a 0 dX0_vanish_5 rfl rfl ?_
  refine a_iconst (pc := 6) a dX0_vanish_6 ?_
  refine a_putI (pc := 7) a 1 1 rfl tb vc0 w2 w3 (by decide) (by decide) tyX0 tyX0_ok nmX0 rfl rfl (by decide +kernel) dX0_vanish_7 ?_
  refine a_nmS (fun s2 hx => ?_)
  replace h := h s2 hx
  clear hx
  refine a_aload_n (pc := 10) a 0 dX0_vanish_10 rfl rfl ?_
  refine a_iconst (pc := 11) a dX0_vanish_11 ?_
  refine a_putI (pc := 12) a 2 2 rfl tb vc0 w2 w4 (by decide) (by decide) tyX0 tyX0_ok nmX0 rfl rfl (by decide +kernel) dX0_vanish_12 ?_
  refine a_nmS (fun s3 hx => ?_)
  replace h := h s3 hx
  clear hx
  refine a_aload_n (pc := 15) a 0 dX0_vanish_15 rfl rfl ?_
  refine a_iconst (pc := 16) a dX0_vanish_16 ?_
  refine a_putI (pc := 17) a 3 3 rfl tb vc0 w2 w5 (by decide) (by decide) tyX0 tyX0_ok nmX0 rfl rfl (by decide +kernel) dX0_vanish_17 ?_
  refine a_nmS (fun s4 hx => ?_)
  replace h := h s4 hx
  clear hx
  refine a_aload_n (pc := 20) a 0 dX0_vanish_20 rfl rfl ?_
  refine a_iconst (pc := 21) a dX0_vanish_21 ?_
  refine a_putI (pc := 22) a 4 4 rfl tb vc0 w2 w6 (by decide) (by decide) tyX0 tyX0_ok nmX0 rfl rfl (by decide +kernel) dX0_vanish_22 ?_
  refine a_nmS (fun s5 hx => ?_)
  replace h := h s5 hx
  clear hx
  refine a_aload_n (pc := 25) a 0 dX0_vanish_25 rfl rfl ?_
  refine a_iconst (pc := 26) a dX0_vanish_26 ?_
  refine a_putI (pc := 27) a 5 5 rfl tb vc0 w2 w7 (by decide) (by decide) tyX0 tyX0_ok nmX0 rfl rfl (by decide +kernel) dX0_vanish_27 ?_
  refine a_nmS (fun s6 hx => ?_)
  replace h := h s6 hx
  clear hx
  exact e_v (pc := 30) a hr dX0_vanish_30 h

set_option maxRecDepth 100000 in
set_option maxHeartbeats 4000000 in
theorem c_X0_moveTo {l : Launch} {D : va_G} {X : XI} {ad : Nat → Nat} (hinj : adI ad) (hl0 : l.stackTraces = false) {b : Nat} {q1 : Nat} {p2 : Int} (tb : tyc b (4, 0)) (tq1 : tyc q1 (7, 0)) {σ : St} {K : St → Prop} (h : f_X0_moveTo b q1 p2 σ K) (sz : Nat) : Met l yX0_moveTo (WW (.code yX0_moveTo cX0_moveTo 5 none)) { frames := 0, cells := 0, slots := 0, locals := 0 } (va_Pc [Value.ref (ad b), Value.ref (ad q1), vI p2] (WD D X ad σ sz)) (QV D X ad sz K) 0 0 (AA ad sz) := by
  refine a_start (cc := cX0_moveTo) (maxL := 5) (ret := none) (own := RX0) [Value.ref (ad b), Value.ref (ad q1), vI p2] (by decide) rfl rfl (Nat.le_of_ble_eq_true rfl) hinj hl0 ?_
  intro p e s m below meth c a hr hsz
  subst hsz
  have hts := a.1.2.2.2.2
  have w1 := hts (Cond.fieldLink RX0 58 "SightLegend$Box" "corner" "I") (List.mem_cons_of_mem _ (GL_8 _ (by decide +kernel)))
  have w2 : ∀ w ∈ u_ws RX0 TX0 6, w ∈ WW (.code yX0_moveTo cX0_moveTo 5 none) := fun w h => List.mem_cons_of_mem _ (inlX0 w h)
  have w3 := hts (Cond.fieldLink RX0 29 "SightLegend$MapState" "window" "[I") (List.mem_cons_of_mem _ (GL_12 _ (by decide +kernel)))
  have w4 : ∀ w ∈ u_ws RX3 TX3 13, w ∈ WW (.code yX0_moveTo cX0_moveTo 5 none) := fun w h => List.mem_cons_of_mem _ (inlX3 w h)
  have w5 : tyc (q1 + 11) (0, 5) := ty_of (d := 11) (t1 := (0, 5)) (by decide +kernel) rfl tq1
  have w6 := hts (Cond.fieldLink RX0 38 "SightLegend$Box" "width" "I") (List.mem_cons_of_mem _ (GL_8 _ (by decide +kernel)))
  have w7 := hts (Cond.fieldLink RX0 61 "SightLegend$Box" "left" "I") (List.mem_cons_of_mem _ (GL_8 _ (by decide +kernel)))
  have w8 := hts (Cond.fieldLink RX0 64 "SightLegend$Box" "top" "I") (List.mem_cons_of_mem _ (GL_8 _ (by decide +kernel)))
  have w9 := hts (Cond.fieldLink RX0 44 "SightLegend$Box" "height" "I") (List.mem_cons_of_mem _ (GL_8 _ (by decide +kernel)))
  unfold f_X0_moveTo at h
  refine a_sub (ls1 := [(0, Value.ref (ad b)), (1, Value.ref (ad q1)), (2, vI p2)]) [0, 1, 2] rfl ?_
  refine a_aload_n (pc := 0) a 0 dX0_moveTo_0 rfl rfl ?_
  refine a_iload_n (pc := 1) a 2 dX0_moveTo_1 rfl rfl ?_
  refine a_putI (pc := 2) a 0 0 rfl tb vc0 w2 w1 (by decide) (by decide) tyX0 tyX0_ok nmX0 rfl rfl (by decide +kernel) dX0_moveTo_2 ?_
  refine a_nmS (fun s1 hx => ?_)
  replace h := h s1 hx
  clear hx
  refine a_iload_n (pc := 5) a 2 dX0_moveTo_5 rfl rfl ?_
  refine a_iconst (pc := 6) a dX0_moveTo_6 ?_
  refine g_wj1 20 0 0 (fun x4 => [(0, Value.ref (ad b)), (1, Value.ref (ad q1)), (2, vI p2)]) (fun x4 => [vI x4]) h ?_ ?_
  · clear h
    intro x4 h
    refine a_istore_n (pc := 20) a (ls1 := [(3, vI x4), (0, Value.ref (ad b)), (1, Value.ref (ad q1)), (2, vI p2)]) dX0_moveTo_20 rfl (by decide) rfl ?_
    refine a_iload_n (pc := 21) a 3 dX0_moveTo_21 rfl rfl ?_
    refine a_iconst (pc := 22) a dX0_moveTo_22 ?_
    refine g_wj1 36 0 0 (fun x7 => [(0, Value.ref (ad b)), (1, Value.ref (ad q1)), (3, vI x4)]) (fun x7 => [vI x7]) h ?_ ?_
    · clear h
      intro x7 h
      refine a_istore (pc := 36) a (ls1 := [(4, vI x7), (0, Value.ref (ad b)), (1, Value.ref (ad q1)), (3, vI x4)]) dX0_moveTo_36 (by decide) rfl ?_
      refine a_aload_n (pc := 38) a 1 dX0_moveTo_38 rfl rfl ?_
      refine a_aload_n (pc := 39) a 2 dX0_moveTo_39 rfl rfl ?_
      refine a_getR (pc := 40) a 11 11 rfl tq1 vc3 w4 w3 (by decide) (by decide) 11 (q := (q1 + 11)) rfl rfl dX0_moveTo_40 ?_
      refine a_iconst (pc := 43) a dX0_moveTo_43 ?_
      refine a_iald (pc := 44) a (tw hinj w5) (by decide) (by decide) dX0_moveTo_44 ?_
      refine a_iload_n (pc := 45) a 3 dX0_moveTo_45 rfl rfl ?_
      refine g_wj1 64 0 0 (fun x9 => [(0, Value.ref (ad b)), (1, Value.ref (ad q1)), (4, vI x7)]) (fun x9 => [vI x9, vI (s1 (q1 + 11) 0), Value.ref (ad b)]) h ?_ ?_
      · clear h
        intro x9 h
        refine a_iadd (pc := 64) a dX0_moveTo_64 ?_
        refine a_putI (pc := 65) a 1 1 rfl tb vc0 w2 w7 (by decide) (by decide) tyX0 tyX0_ok nmX0 rfl rfl (by decide +kernel) dX0_moveTo_65 ?_
        refine a_nmS (fun s10 hx => ?_)
        replace h := h s10 hx
        clear hx
        refine a_aload_n (pc := 68) a 0 dX0_moveTo_68 rfl rfl ?_
        refine a_aload_n (pc := 69) a 1 dX0_moveTo_69 rfl rfl ?_
        refine a_getR (pc := 70) a 11 11 rfl tq1 vc3 w4 w3 (by decide) (by decide) 11 (q := (q1 + 11)) rfl rfl dX0_moveTo_70 ?_
        refine a_iconst (pc := 73) a dX0_moveTo_73 ?_
        refine a_iald (pc := 74) a (tw hinj w5) (by decide) (by decide) dX0_moveTo_74 ?_
        refine a_iload (pc := 75) a 2 dX0_moveTo_75 rfl ?_
        refine a_if_eq (pc := 77) a h.1 dX0_moveTo_77 (tgt := 94) (by decide) (fun hq => ?_) (fun hq => ?_)
        · replace h := h.2.1 hq
          clear hq
          refine a_iconst (pc := 94) a dX0_moveTo_94 ?_
          refine a_iadd (pc := 95) a dX0_moveTo_95 ?_
          refine a_putI (pc := 96) a 2 2 rfl tb vc0 w2 w8 (by decide) (by decide) tyX0 tyX0_ok nmX0 rfl rfl (by decide +kernel) dX0_moveTo_96 ?_
          refine a_nmS (fun s11 hx => ?_)
          replace h := h s11 hx
          clear hx
          exact e_v (pc := 99) a hr dX0_moveTo_99 h
        · replace h := h.2.2 hq
          clear hq
          refine a_aload_n (pc := 80) a 1 dX0_moveTo_80 rfl rfl ?_
          refine a_getR (pc := 81) a 11 11 rfl tq1 vc3 w4 w3 (by decide) (by decide) 11 (q := (q1 + 11)) rfl rfl dX0_moveTo_81 ?_
          refine a_iconst (pc := 84) a dX0_moveTo_84 ?_
          refine a_iald (pc := 85) a (tw hinj w5) (by decide) (by decide) dX0_moveTo_85 ?_
          refine a_aload_n (pc := 86) a 0 dX0_moveTo_86 rfl rfl ?_
          refine a_getI (pc := 87) a 4 4 rfl tb vc0 w2 w9 (by decide) (by decide) rfl dX0_moveTo_87 ?_
          refine a_isub (pc := 90) a dX0_moveTo_90 ?_
          refine a_goto (pc := 91) a dX0_moveTo_91 (tgt := 95) (by decide) ?_
          refine a_iadd (pc := 95) a dX0_moveTo_95 ?_
          refine a_putI (pc := 96) a 2 2 rfl tb vc0 w2 w8 (by decide) (by decide) tyX0 tyX0_ok nmX0 rfl rfl (by decide +kernel) dX0_moveTo_96 ?_
          refine a_nmS (fun s12 hx => ?_)
          replace h := h s12 hx
          clear hx
          exact e_v (pc := 99) a hr dX0_moveTo_99 h
      · clear h
        intro jj64 hjj64 h
        refine a_if_eq (pc := 46) a h.1 dX0_moveTo_46 (tgt := 63) (by decide) (fun hq => ?_) (fun hq => ?_)
        · replace h := h.2.1 hq
          clear hq
          refine a_iconst (pc := 63) a dX0_moveTo_63 ?_
          refine a_sub (ls1 := [(0, Value.ref (ad b)), (1, Value.ref (ad q1)), (4, vI x7)]) [1, 2, 0] rfl ?_
          exact hjj64 0 h
        · replace h := h.2.2 hq
          clear hq
          refine a_aload_n (pc := 49) a 2 dX0_moveTo_49 rfl rfl ?_
          refine a_getR (pc := 50) a 11 11 rfl tq1 vc3 w4 w3 (by decide) (by decide) 11 (q := (q1 + 11)) rfl rfl dX0_moveTo_50 ?_
          refine a_iconst (pc := 53) a dX0_moveTo_53 ?_
          refine a_iald (pc := 54) a (tw hinj w5) (by decide) (by decide) dX0_moveTo_54 ?_
          refine a_aload_n (pc := 55) a 1 dX0_moveTo_55 rfl rfl ?_
          refine a_getI (pc := 56) a 3 3 rfl tb vc0 w2 w6 (by decide) (by decide) rfl dX0_moveTo_56 ?_
          refine a_isub (pc := 59) a dX0_moveTo_59 ?_
          refine a_goto (pc := 60) a dX0_moveTo_60 (tgt := 64) (by decide) ?_
          refine a_sub (ls1 := [(0, Value.ref (ad b)), (1, Value.ref (ad q1)), (4, vI x7)]) [1, 2, 0] rfl ?_
          exact hjj64 ((s1 (q1 + 11) 2) - (s1 b 3)) h
    · clear h
      intro jj36 hjj36 h
      refine g_wj0 31 0 0 [(0, Value.ref (ad b)), (1, Value.ref (ad q1)), (3, vI x4)] [] h ?_ ?_
      · clear h
        intro  h
        refine a_iconst (pc := 31) a dX0_moveTo_31 ?_
        refine a_goto (pc := 32) a dX0_moveTo_32 (tgt := 36) (by decide) ?_
        exact hjj36 1 h
      · clear h
        intro jj31 hjj31 h
        refine a_icmp_eq (pc := 23) a h.1 ⟨by decide, by decide⟩ dX0_moveTo_23 (tgt := 31) (by decide) (fun hq => ?_) (fun hq => ?_)
        · replace h := h.2.1 hq
          clear hq
          refine a_sub (ls1 := [(0, Value.ref (ad b)), (1, Value.ref (ad q1)), (3, vI x4)]) [1, 2, 0] rfl ?_
          exact hjj31  h
        · replace h := h.2.2 hq
          clear hq
          refine a_iload_n (pc := 26) a 3 dX0_moveTo_26 rfl rfl ?_
          refine a_iconst (pc := 27) a dX0_moveTo_27 ?_
          refine a_icmp_ne (pc := 28) a h.1 ⟨by decide, by decide⟩ dX0_moveTo_28 (tgt := 35) (by decide) (fun hq => ?_) (fun hq => ?_)
          · replace h := h.2.1 hq
            clear hq
            refine a_iconst (pc := 35) a dX0_moveTo_35 ?_
            refine a_sub (ls1 := [(0, Value.ref (ad b)), (1, Value.ref (ad q1)), (3, vI x4)]) [1, 2, 0] rfl ?_
            exact hjj36 0 h
          · replace h := h.2.2 hq
            clear hq
            refine a_sub (ls1 := [(0, Value.ref (ad b)), (1, Value.ref (ad q1)), (3, vI x4)]) [1, 2, 0] rfl ?_
            exact hjj31  h
  · clear h
    intro jj20 hjj20 h
    refine g_wj0 15 0 0 [(0, Value.ref (ad b)), (1, Value.ref (ad q1)), (2, vI p2)] [] h ?_ ?_
    · clear h
      intro  h
      refine a_iconst (pc := 15) a dX0_moveTo_15 ?_
      refine a_goto (pc := 16) a dX0_moveTo_16 (tgt := 20) (by decide) ?_
      exact hjj20 1 h
    · clear h
      intro jj15 hjj15 h
      refine a_icmp_eq (pc := 7) a h.1 ⟨by decide, by decide⟩ dX0_moveTo_7 (tgt := 15) (by decide) (fun hq => ?_) (fun hq => ?_)
      · replace h := h.2.1 hq
        clear hq
        exact hjj15  h
      · replace h := h.2.2 hq
        clear hq
        refine a_iload_n (pc := 10) a 2 dX0_moveTo_10 rfl rfl ?_
        refine a_iconst (pc := 11) a dX0_moveTo_11 ?_
        refine a_icmp_ne (pc := 12) a h.1 ⟨by decide, by decide⟩ dX0_moveTo_12 (tgt := 19) (by decide) (fun hq => ?_) (fun hq => ?_)
        · replace h := h.2.1 hq
          clear hq
          refine a_iconst (pc := 19) a dX0_moveTo_19 ?_
          exact hjj20 0 h
        · replace h := h.2.2 hq
          clear hq
          exact hjj15  h

set_option maxRecDepth 100000 in
set_option maxHeartbeats 4000000 in
theorem c_X0_covers {l : Launch} {D : va_G} {X : XI} {ad : Nat → Nat} (hinj : adI ad) (hl0 : l.stackTraces = false) {b : Nat} {q1 : Nat} {p2 : Int} (tb : tyc b (4, 0)) (tq1 : tyc q1 (7, 0)) {σ : St} {K : Int → Prop} (h : f_X0_covers b q1 p2 σ K) (sz : Nat) : Met l yX0_covers (WW (.code yX0_covers cX0_covers 5 (some .boolean))) { frames := 0, cells := 0, slots := 0, locals := 0 } (va_Pc [Value.ref (ad b), Value.ref (ad q1), vI p2] (WD D X ad σ sz)) (QI D X ad sz (fun r τ => τ = σ ∧ K r)) 0 0 (AA ad sz) := by
  refine a_start (cc := cX0_covers) (maxL := 5) (ret := (some .boolean)) (own := RX0) [Value.ref (ad b), Value.ref (ad q1), vI p2] (by decide) rfl rfl (Nat.le_of_ble_eq_true rfl) hinj hl0 ?_
  intro p e s m below meth c a hr hsz
  subst hsz
  have hts := a.1.2.2.2.2
  have w1 := hts (Cond.fieldLink RX0 74 "SightLegend$MapState" "signColumn" "[I") (List.mem_cons_of_mem _ (GL_8 _ (by decide +kernel)))
  have w2 : ∀ w ∈ u_ws RX3 TX3 13, w ∈ WW (.code yX0_covers cX0_covers 5 (some .boolean)) := fun w h => List.mem_cons_of_mem _ (inlX3 w h)
  have w3 : tyc (q1 + 2) (0, 40) := ty_of (d := 2) (t1 := (0, 40)) (by decide +kernel) rfl tq1
  have w4 := hts (Cond.fieldLink RX0 61 "SightLegend$Box" "left" "I") (List.mem_cons_of_mem _ (GL_8 _ (by decide +kernel)))
  have w5 : ∀ w ∈ u_ws RX0 TX0 6, w ∈ WW (.code yX0_covers cX0_covers 5 (some .boolean)) := fun w h => List.mem_cons_of_mem _ (inlX0 w h)
  have w6 := hts (Cond.fieldLink RX0 77 "SightLegend$MapState" "signRow" "[I") (List.mem_cons_of_mem _ (GL_8 _ (by decide +kernel)))
  have w7 : tyc (q1 + 3) (0, 40) := ty_of (d := 3) (t1 := (0, 40)) (by decide +kernel) rfl tq1
  have w8 := hts (Cond.fieldLink RX0 64 "SightLegend$Box" "top" "I") (List.mem_cons_of_mem _ (GL_8 _ (by decide +kernel)))
  have w9 := hts (Cond.fieldLink RX0 58 "SightLegend$Box" "corner" "I") (List.mem_cons_of_mem _ (GL_8 _ (by decide +kernel)))
  have w10 := hts (Cond.fieldLink RX0 38 "SightLegend$Box" "width" "I") (List.mem_cons_of_mem _ (GL_8 _ (by decide +kernel)))
  have w11 := hts (Cond.fieldLink RX0 44 "SightLegend$Box" "height" "I") (List.mem_cons_of_mem _ (GL_8 _ (by decide +kernel)))
  unfold f_X0_covers at h
  refine a_sub (ls1 := [(0, Value.ref (ad b)), (1, Value.ref (ad q1)), (2, vI p2)]) [0, 1, 2] rfl ?_
  refine a_aload_n (pc := 0) a 1 dX0_covers_0 rfl rfl ?_
  refine a_getR (pc := 1) a 1 1 rfl tq1 vc3 w2 w1 (by decide) (by decide) 2 (q := (q1 + 2)) rfl rfl dX0_covers_1 ?_
  refine a_iload_n (pc := 4) a 2 dX0_covers_4 rfl rfl ?_
  refine a_iald (pc := 5) a (tw hinj w3) (by decide) h.1 dX0_covers_5 ?_
  replace h := h.2
  refine a_aload_n (pc := 6) a 0 dX0_covers_6 rfl rfl ?_
  refine a_getI (pc := 7) a 1 1 rfl tb vc0 w5 w4 (by decide) (by decide) rfl dX0_covers_7 ?_
  refine a_isub (pc := 10) a dX0_covers_10 ?_
  refine a_nm (fun x1 hx => ?_)
  replace h := h x1 hx
  clear hx
  refine a_istore_n (pc := 11) a (ls1 := [(3, vI x1), (0, Value.ref (ad b)), (1, Value.ref (ad q1)), (2, vI p2)]) dX0_covers_11 rfl (by decide) rfl ?_
  refine a_aload_n (pc := 12) a 2 dX0_covers_12 rfl rfl ?_
  refine a_getR (pc := 13) a 2 2 rfl tq1 vc3 w2 w6 (by decide) (by decide) 3 (q := (q1 + 3)) rfl rfl dX0_covers_13 ?_
  refine a_iload_n (pc := 16) a 3 dX0_covers_16 rfl rfl ?_
  refine a_iald (pc := 17) a (tw hinj w7) (by decide) h.1 dX0_covers_17 ?_
  replace h := h.2
  refine a_aload_n (pc := 18) a 1 dX0_covers_18 rfl rfl ?_
  refine a_getI (pc := 19) a 2 2 rfl tb vc0 w5 w8 (by decide) (by decide) rfl dX0_covers_19 ?_
  refine a_isub (pc := 22) a dX0_covers_22 ?_
  refine a_nm (fun x2 hx => ?_)
  replace h := h x2 hx
  clear hx
  refine a_istore (pc := 23) a (ls1 := [(4, vI x2), (3, vI x1), (0, Value.ref (ad b)), (1, Value.ref (ad q1)), (2, vI p2)]) dX0_covers_23 (by decide) rfl ?_
  refine a_aload_n (pc := 25) a 2 dX0_covers_25 rfl rfl ?_
  refine a_getI (pc := 26) a 0 0 rfl tb vc0 w5 w9 (by decide) (by decide) rfl dX0_covers_26 ?_
  refine a_iconst (pc := 29) a dX0_covers_29 ?_
  refine a_icmp_eq (pc := 30) a h.1 ⟨by decide, by decide⟩ dX0_covers_30 (tgt := 63) (by decide) (fun hq => ?_) (fun hq => ?_)
  · replace h := h.2.1 hq
    clear hq
    refine a_iconst (pc := 63) a dX0_covers_63 ?_
    exact e_z (pc := 64) a hr (by decide) dX0_covers_64 ⟨rfl, h⟩
  · replace h := h.2.2 hq
    clear hq
    refine a_iload_n (pc := 33) a 1 dX0_covers_33 rfl rfl ?_
    refine a_if_lt (pc := 34) a h.1 dX0_covers_34 (tgt := 63) (by decide) (fun hq => ?_) (fun hq => ?_)
    · replace h := h.2.1 hq
      clear hq
      refine a_iconst (pc := 63) a dX0_covers_63 ?_
      exact e_z (pc := 64) a hr (by decide) dX0_covers_64 ⟨rfl, h⟩
    · replace h := h.2.2 hq
      clear hq
      refine a_iload_n (pc := 37) a 1 dX0_covers_37 rfl rfl ?_
      refine a_aload_n (pc := 38) a 2 dX0_covers_38 rfl rfl ?_
      refine a_getI (pc := 39) a 3 3 rfl tb vc0 w5 w10 (by decide) (by decide) rfl dX0_covers_39 ?_
      refine a_icmp_ge (pc := 42) a h.1 h.2.1 dX0_covers_42 (tgt := 63) (by decide) (fun hq => ?_) (fun hq => ?_)
      · replace h := h.2.2.1 hq
        clear hq
        refine a_iconst (pc := 63) a dX0_covers_63 ?_
        exact e_z (pc := 64) a hr (by decide) dX0_covers_64 ⟨rfl, h⟩
      · replace h := h.2.2.2 hq
        clear hq
        refine a_iload (pc := 45) a 0 dX0_covers_45 rfl ?_
        refine a_if_lt (pc := 47) a h.1 dX0_covers_47 (tgt := 63) (by decide) (fun hq => ?_) (fun hq => ?_)
        · replace h := h.2.1 hq
          clear hq
          refine a_iconst (pc := 63) a dX0_covers_63 ?_
          exact e_z (pc := 64) a hr (by decide) dX0_covers_64 ⟨rfl, h⟩
        · replace h := h.2.2 hq
          clear hq
          refine a_iload (pc := 50) a 0 dX0_covers_50 rfl ?_
          refine a_aload_n (pc := 52) a 2 dX0_covers_52 rfl rfl ?_
          refine a_getI (pc := 53) a 4 4 rfl tb vc0 w5 w11 (by decide) (by decide) rfl dX0_covers_53 ?_
          refine a_icmp_ge (pc := 56) a h.1 h.2.1 dX0_covers_56 (tgt := 63) (by decide) (fun hq => ?_) (fun hq => ?_)
          · replace h := h.2.2.1 hq
            clear hq
            refine a_iconst (pc := 63) a dX0_covers_63 ?_
            exact e_z (pc := 64) a hr (by decide) dX0_covers_64 ⟨rfl, h⟩
          · replace h := h.2.2.2 hq
            clear hq
            refine a_iconst (pc := 59) a dX0_covers_59 ?_
            refine a_goto (pc := 60) a dX0_covers_60 (tgt := 64) (by decide) ?_
            exact e_z (pc := 64) a hr (by decide) dX0_covers_64 ⟨rfl, h⟩

set_option maxRecDepth 100000 in
set_option maxHeartbeats 4000000 in
theorem c_X0_countCovered {l : Launch} {D : va_G} {X : XI} {ad : Nat → Nat} (hinj : adI ad) (hl0 : l.stackTraces = false) {b : Nat} {q1 : Nat} {q2 : Nat} (tb : tyc b (4, 0)) (tq1 : tyc q1 (7, 0)) (tq2 : tyc q2 (1, 40)) {σ : St} {K : Int → Prop} (h : f_X0_countCovered b q1 q2 σ K) (sz : Nat) : Met l yX0_countCovered (WW (.code yX0_countCovered cX0_countCovered 5 (some .int))) { frames := 1, cells := 0, slots := 0, locals := 24 } (va_Pc [Value.ref (ad b), Value.ref (ad q1), Value.ref (ad q2)] (WD D X ad σ sz)) (QI D X ad sz (fun r τ => τ = σ ∧ K r)) 0 0 (AA ad sz) := by
  refine a_start (cc := cX0_countCovered) (maxL := 5) (ret := (some .int)) (own := RX0) [Value.ref (ad b), Value.ref (ad q1), Value.ref (ad q2)] (by decide) rfl rfl (Nat.le_of_ble_eq_true rfl) hinj hl0 ?_
  intro p e s m below meth c a hr hsz
  subst hsz
  have hts := a.1.2.2.2.2
  have w1 := hts (Cond.fieldLink RX0 67 "SightLegend$MapState" "signCount" "I") (List.mem_cons_of_mem _ (GL_13 _ (by decide +kernel)))
  have w2 : ∀ w ∈ u_ws RX3 TX3 13, w ∈ WW (.code yX0_countCovered cX0_countCovered 5 (some .int)) := fun w h => List.mem_cons_of_mem _ (inlX3 w h)
  unfold f_X0_countCovered at h
  refine a_sub (ls1 := [(0, Value.ref (ad b)), (1, Value.ref (ad q1)), (2, Value.ref (ad q2))]) [0, 1, 2] rfl ?_
  refine a_iconst (pc := 0) a dX0_countCovered_0 ?_
  refine a_istore_n (pc := 1) a (ls1 := [(3, vI 0), (0, Value.ref (ad b)), (1, Value.ref (ad q1)), (2, Value.ref (ad q2))]) dX0_countCovered_1 rfl (by decide) rfl ?_
  refine a_iconst (pc := 2) a dX0_countCovered_2 ?_
  refine a_istore (pc := 3) a (ls1 := [(4, vI 0), (3, vI 0), (0, Value.ref (ad b)), (1, Value.ref (ad q1)), (2, Value.ref (ad q2))]) dX0_countCovered_3 (by decide) rfl ?_
  refine a_sub (ls1 := [(0, Value.ref (ad b)), (1, Value.ref (ad q1)), (2, Value.ref (ad q2)), (3, vI 0), (4, vI 0)]) [2, 3, 4, 1, 0] rfl ?_
  refine g_wl2 (fun x1 x2 => [(0, Value.ref (ad b)), (1, Value.ref (ad q1)), (2, Value.ref (ad q2)), (3, vI x1), (4, vI x2)]) h ?_
  clear h
  intro x1 x2 ag5 hag5 h
  refine a_iload (pc := 5) a 4 dX0_countCovered_5 rfl ?_
  refine a_aload_n (pc := 7) a 1 dX0_countCovered_7 rfl rfl ?_
  refine a_getI (pc := 8) a 5 5 rfl tq1 vc3 w2 w1 (by decide) (by decide) rfl dX0_countCovered_8 ?_
  refine a_icmp_ge (pc := 11) a h.1 h.2.1 dX0_countCovered_11 (tgt := 40) (by decide) (fun hq => ?_) (fun hq => ?_)
  · replace h := h.2.2.1 hq
    clear hq
    refine a_iload_n (pc := 40) a 3 dX0_countCovered_40 rfl rfl ?_
    exact e_i (pc := 41) a hr dX0_countCovered_41 ⟨rfl, h⟩
  · replace h := h.2.2.2 hq
    clear hq
    refine a_aload_n (pc := 14) a 2 dX0_countCovered_14 rfl rfl ?_
    refine a_iload (pc := 15) a 4 dX0_countCovered_15 rfl ?_
    refine a_zald (pc := 17) a (tw hinj tq2) (by decide) h.1 dX0_countCovered_17 ?_
    replace h := h.2
    refine a_if_eq (pc := 18) a h.1 dX0_countCovered_18 (tgt := 34) (by decide) (fun hq => ?_) (fun hq => ?_)
    · replace h := h.2.1 hq
      clear hq
      refine a_iinc (pc := 34) a (ls1 := [(4, vI (x2 + 1)), (0, Value.ref (ad b)), (1, Value.ref (ad q1)), (2, Value.ref (ad q2)), (3, vI x1)]) 4 dX0_countCovered_34 rfl (by decide) rfl ?_
      refine a_goto (pc := 37) a dX0_countCovered_37 (tgt := 5) (by decide) ?_
      refine a_sub (ls1 := [(0, Value.ref (ad b)), (1, Value.ref (ad q1)), (2, Value.ref (ad q2)), (3, vI x1), (4, vI (x2 + 1))]) [1, 2, 3, 4, 0] rfl ?_
      exact hag5 x1 (x2 + 1) h
    · replace h := h.2.2 hq
      clear hq
      refine a_aload_n (pc := 21) a 0 dX0_countCovered_21 rfl rfl ?_
      refine a_aload_n (pc := 22) a 1 dX0_countCovered_22 rfl rfl ?_
      refine a_iload (pc := 23) a 4 dX0_countCovered_23 rfl ?_
      refine a_cvi (pc := 25) a (As := [Value.ref (ad q1), vI x2]) (rest := []) tb vc0 (fun sz => c_X0_covers hinj hl0 tb tq1 h sz) (cwV 2 hts (gl_V (GL_13 _ (by decide +kernel)) (GL_8 _ (by decide +kernel)) (GL_8 _ (by decide +kernel)) (GL_3 _ (by decide +kernel)) (GL_8 _ (by decide +kernel))) rfl rfl rfl (by decide +kernel) ⟨Nat.le_of_ble_eq_true rfl, Nat.le_of_ble_eq_true rfl⟩) rfl rfl (Nat.le_of_ble_eq_true rfl) ⟨Nat.le_of_ble_eq_true rfl, Nat.le_of_ble_eq_true rfl⟩ dX0_countCovered_25 ?_
      rintro x3 s9 ⟨hs9, h9⟩
      subst s9
      replace h := h9
      clear h9
      refine a_if_eq (pc := 28) a h.1 dX0_countCovered_28 (tgt := 34) (by decide) (fun hq => ?_) (fun hq => ?_)
      · replace h := h.2.1 hq
        clear hq
        refine a_iinc (pc := 34) a (ls1 := [(4, vI (x2 + 1)), (0, Value.ref (ad b)), (1, Value.ref (ad q1)), (2, Value.ref (ad q2)), (3, vI x1)]) 4 dX0_countCovered_34 rfl (by decide) rfl ?_
        refine a_goto (pc := 37) a dX0_countCovered_37 (tgt := 5) (by decide) ?_
        refine a_sub (ls1 := [(0, Value.ref (ad b)), (1, Value.ref (ad q1)), (2, Value.ref (ad q2)), (3, vI x1), (4, vI (x2 + 1))]) [1, 2, 3, 4, 0] rfl ?_
        exact hag5 x1 (x2 + 1) h
      · replace h := h.2.2 hq
        clear hq
        refine a_iinc (pc := 31) a (ls1 := [(3, vI (x1 + 1)), (0, Value.ref (ad b)), (1, Value.ref (ad q1)), (2, Value.ref (ad q2)), (4, vI x2)]) 3 dX0_countCovered_31 rfl (by decide) rfl ?_
        refine a_iinc (pc := 34) a (ls1 := [(4, vI (x2 + 1)), (3, vI (x1 + 1)), (0, Value.ref (ad b)), (1, Value.ref (ad q1)), (2, Value.ref (ad q2))]) 4 dX0_countCovered_34 rfl (by decide) rfl ?_
        refine a_goto (pc := 37) a dX0_countCovered_37 (tgt := 5) (by decide) ?_
        refine a_sub (ls1 := [(0, Value.ref (ad b)), (1, Value.ref (ad q1)), (2, Value.ref (ad q2)), (3, vI (x1 + 1)), (4, vI (x2 + 1))]) [2, 3, 4, 1, 0] rfl ?_
        exact hag5 (x1 + 1) (x2 + 1) h

set_option maxRecDepth 100000 in
set_option maxHeartbeats 4000000 in
theorem c_X0_place {l : Launch} {D : va_G} {X : XI} {ad : Nat → Nat} (hinj : adI ad) (hl0 : l.stackTraces = false) {b : Nat} {q1 : Nat} {q2 : Nat} {q3 : Nat} (tb : tyc b (4, 0)) (tq1 : tyc q1 (7, 0)) (tq2 : tyc q2 (6, 0)) (tq3 : tyc q3 (1, 40)) {σ : St} {K : St → Prop} (h : f_X0_place b q1 q2 q3 σ K) (sz : Nat) : Met l yX0_place (WW (.code yX0_place cX0_place 8 none)) { frames := 2, cells := 0, slots := 0, locals := 48 } (va_Pc [Value.ref (ad b), Value.ref (ad q1), Value.ref (ad q2), Value.ref (ad q3)] (WD D X ad σ sz)) (QV D X ad sz K) 0 0 (AA ad sz) := by
  refine a_start (cc := cX0_place) (maxL := 8) (ret := none) (own := RX0) [Value.ref (ad b), Value.ref (ad q1), Value.ref (ad q2), Value.ref (ad q3)] (by decide) rfl rfl (Nat.le_of_ble_eq_true rfl) hinj hl0 ?_
  intro p e s m below meth c a hr hsz
  subst hsz
  have hts := a.1.2.2.2.2
  have w1 := hts (Cond.fieldLink RX0 9 "SightLegend$Lines" "size" "I") (List.mem_cons_of_mem _ (GL_12 _ (by decide +kernel)))
  have w2 : ∀ w ∈ u_ws RX2 TX2 14, w ∈ WW (.code yX0_place cX0_place 8 none) := fun w h => List.mem_cons_of_mem _ (inlX2 w h)
  have w3 := hts (Cond.fieldLink RX0 20 "SightLegend$MapState" "settings" "[I") (List.mem_cons_of_mem _ (GL_12 _ (by decide +kernel)))
  have w4 : ∀ w ∈ u_ws RX3 TX3 13, w ∈ WW (.code yX0_place cX0_place 8 none) := fun w h => List.mem_cons_of_mem _ (inlX3 w h)
  have w5 : tyc (q1 + 12) (0, 4) := ty_of (d := 12) (t1 := (0, 4)) (by decide +kernel) rfl tq1
  have w6 := hts (Cond.fieldLink RX0 26 "SightLegend$Lines" "usedColumns" "I") (List.mem_cons_of_mem _ (GL_12 _ (by decide +kernel)))
  have w7 := hts (Cond.fieldLink RX0 29 "SightLegend$MapState" "window" "[I") (List.mem_cons_of_mem _ (GL_12 _ (by decide +kernel)))
  have w8 : tyc (q1 + 11) (0, 5) := ty_of (d := 11) (t1 := (0, 5)) (by decide +kernel) rfl tq1
  have w9 := hts (Cond.methodLink RX0 32 Lib.Math.min.name) (List.mem_cons_of_mem _ (GL_12 _ (by decide +kernel)))
  have w10 := hts (Cond.static Lib.Math.min.name) (List.mem_cons_of_mem _ (GL_12 _ (by decide +kernel)))
  have w11 := hts (Cond.initialized "java/lang/Math") (List.mem_cons_of_mem _ (GL_9 _ (by decide +kernel)))
  have w12 := hts (Cond.code Lib.Math.min.name Lib.Math.min.code 2 (some .int)) (List.mem_cons_of_mem _ (GL_12 _ (by decide +kernel)))
  have w13 := hts (Cond.fieldLink RX0 38 "SightLegend$Box" "width" "I") (List.mem_cons_of_mem _ (GL_8 _ (by decide +kernel)))
  have w14 : ∀ w ∈ u_ws RX0 TX0 6, w ∈ WW (.code yX0_place cX0_place 8 none) := fun w h => List.mem_cons_of_mem _ (inlX0 w h)
  have w15 := hts (Cond.fieldLink RX0 41 "SightLegend$Lines" "tallest" "I") (List.mem_cons_of_mem _ (GL_12 _ (by decide +kernel)))
  have w16 := hts (Cond.fieldLink RX0 44 "SightLegend$Box" "height" "I") (List.mem_cons_of_mem _ (GL_8 _ (by decide +kernel)))
  have w17 := hts (Cond.fieldLink RX0 55 "SightLegend$Box" "covered" "I") (List.mem_cons_of_mem _ (GL_12 _ (by decide +kernel)))
  unfold f_X0_place at h
  refine a_sub (ls1 := [(0, Value.ref (ad b)), (1, Value.ref (ad q1)), (2, Value.ref (ad q2)), (3, Value.ref (ad q3))]) [0, 1, 2, 3] rfl ?_
  refine a_aload_n (pc := 0) a 2 dX0_place_0 rfl rfl ?_
  refine a_getI (pc := 1) a 0 0 rfl tq2 vc2 w2 w1 (by decide) (by decide) rfl dX0_place_1 ?_
  refine a_if_gt (pc := 4) a h.1 dX0_place_4 (tgt := 12) (by decide) (fun hq => ?_) (fun hq => ?_)
  · replace h := h.2.1 hq
    clear hq
    refine a_aload_n (pc := 12) a 0 dX0_place_12 rfl rfl ?_
    refine a_aload_n (pc := 13) a 1 dX0_place_13 rfl rfl ?_
    refine a_getR (pc := 14) a 12 12 rfl tq1 vc3 w4 w3 (by decide) (by decide) 12 (q := (q1 + 12)) rfl rfl dX0_place_14 ?_
    refine a_iconst (pc := 17) a dX0_place_17 ?_
    refine a_iald (pc := 18) a (tw hinj w5) (by decide) (by decide) dX0_place_18 ?_
    refine a_aload_n (pc := 19) a 2 dX0_place_19 rfl rfl ?_
    refine a_getI (pc := 20) a 9 9 rfl tq2 vc2 w2 w6 (by decide) (by decide) rfl dX0_place_20 ?_
    refine a_imul (pc := 23) a dX0_place_23 ?_
    refine a_aload_n (pc := 24) a 1 dX0_place_24 rfl rfl ?_
    refine a_getR (pc := 25) a 11 11 rfl tq1 vc3 w4 w7 (by decide) (by decide) 11 (q := (q1 + 11)) rfl rfl dX0_place_25 ?_
    refine a_iconst (pc := 28) a dX0_place_28 ?_
    refine a_iald (pc := 29) a (tw hinj w8) (by decide) (by decide) dX0_place_29 ?_
    refine a_min (pc := 30) a h.1 h.2.1 w9 w10 w11 w12 (Nat.le_of_ble_eq_true rfl) (Nat.le_of_ble_eq_true rfl) (Nat.le_of_ble_eq_true rfl) (Nat.le_of_ble_eq_true rfl) dX0_place_30 ?_
    replace h := h.2.2
    refine a_putI (pc := 33) a 3 3 rfl tb vc0 w14 w13 (by decide) (by decide) tyX0 tyX0_ok nmX0 rfl rfl (by decide +kernel) dX0_place_33 ?_
    refine a_nmS (fun s1 hx => ?_)
    replace h := h s1 hx
    clear hx
    refine a_aload_n (pc := 36) a 0 dX0_place_36 rfl rfl ?_
    refine a_aload_n (pc := 37) a 1 dX0_place_37 rfl rfl ?_
    refine a_getR (pc := 38) a 12 12 rfl tq1 vc3 w4 w3 (by decide) (by decide) 12 (q := (q1 + 12)) rfl rfl dX0_place_38 ?_
    refine a_iconst (pc := 41) a dX0_place_41 ?_
    refine a_iald (pc := 42) a (tw hinj w5) (by decide) (by decide) dX0_place_42 ?_
    refine a_aload_n (pc := 43) a 2 dX0_place_43 rfl rfl ?_
    refine a_getI (pc := 44) a 10 10 rfl tq2 vc2 w2 w15 (by decide) (by decide) rfl dX0_place_44 ?_
    refine a_imul (pc := 47) a dX0_place_47 ?_
    refine a_aload_n (pc := 48) a 1 dX0_place_48 rfl rfl ?_
    refine a_getR (pc := 49) a 11 11 rfl tq1 vc3 w4 w7 (by decide) (by decide) 11 (q := (q1 + 11)) rfl rfl dX0_place_49 ?_
    refine a_iconst (pc := 52) a dX0_place_52 ?_
    refine a_iald (pc := 53) a (tw hinj w8) (by decide) (by decide) dX0_place_53 ?_
    refine a_min (pc := 54) a h.1 h.2.1 w9 w10 w11 w12 (Nat.le_of_ble_eq_true rfl) (Nat.le_of_ble_eq_true rfl) (Nat.le_of_ble_eq_true rfl) (Nat.le_of_ble_eq_true rfl) dX0_place_54 ?_
    replace h := h.2.2
    refine a_putI (pc := 57) a 4 4 rfl tb vc0 w14 w16 (by decide) (by decide) tyX0 tyX0_ok nmX0 rfl rfl (by decide +kernel) dX0_place_57 ?_
    refine a_nmS (fun s2 hx => ?_)
    replace h := h s2 hx
    clear hx
    refine a_iconst (pc := 60) a dX0_place_60 ?_
    refine a_istore (pc := 61) a (ls1 := [(4, vI 0), (0, Value.ref (ad b)), (1, Value.ref (ad q1)), (2, Value.ref (ad q2)), (3, Value.ref (ad q3))]) dX0_place_61 (by decide) rfl ?_
    refine a_bipush (pc := 63) a dX0_place_63 (by decide) ?_
    refine a_istore (pc := 65) a (ls1 := [(5, vI 41), (4, vI 0), (0, Value.ref (ad b)), (1, Value.ref (ad q1)), (2, Value.ref (ad q2)), (3, Value.ref (ad q3))]) dX0_place_65 (by decide) rfl ?_
    refine a_iconst (pc := 67) a dX0_place_67 ?_
    refine a_istore (pc := 68) a (ls1 := [(6, vI 0), (5, vI 41), (4, vI 0), (0, Value.ref (ad b)), (1, Value.ref (ad q1)), (2, Value.ref (ad q2)), (3, Value.ref (ad q3))]) dX0_place_68 (by decide) rfl ?_
    refine a_sub (ls1 := [(0, Value.ref (ad b)), (1, Value.ref (ad q1)), (3, Value.ref (ad q3)), (4, vI 0), (5, vI 41), (6, vI 0)]) [3, 4, 6, 2, 1, 0] rfl ?_
    refine g_wl3s (fun x3 x4 x5 => [(0, Value.ref (ad b)), (1, Value.ref (ad q1)), (3, Value.ref (ad q3)), (4, vI x3), (5, vI x4), (6, vI x5)]) h ?_
    clear h
    intro x3 x4 x5 s6 ag70 hag70 h
    refine a_iload (pc := 70) a 5 dX0_place_70 rfl ?_
    refine a_iconst (pc := 72) a dX0_place_72 ?_
    refine a_icmp_ge (pc := 73) a h.1 ⟨by decide, by decide⟩ dX0_place_73 (tgt := 112) (by decide) (fun hq => ?_) (fun hq => ?_)
    · replace h := h.2.1 hq
      clear hq
      refine a_aload_n (pc := 112) a 0 dX0_place_112 rfl rfl ?_
      refine a_aload_n (pc := 113) a 1 dX0_place_113 rfl rfl ?_
      refine a_iload (pc := 114) a 3 dX0_place_114 rfl ?_
      refine a_cvv (pc := 116) a (As := [Value.ref (ad q1), vI x3]) (rest := []) tb vc0 (fun sz => c_X0_moveTo hinj hl0 tb tq1 h sz) (cwV 2 hts (gl_V (GL_12 _ (by decide +kernel)) (GL_12 _ (by decide +kernel)) (GL_12 _ (by decide +kernel)) (GL_3 _ (by decide +kernel)) (GL_12 _ (by decide +kernel))) rfl rfl rfl (by decide +kernel) ⟨Nat.le_of_ble_eq_true rfl, Nat.le_of_ble_eq_true rfl⟩) rfl rfl (Nat.le_of_ble_eq_true rfl) ⟨Nat.le_of_ble_eq_true rfl, Nat.le_of_ble_eq_true rfl⟩ dX0_place_116 ?_
      clear h
      intro s7 h
      refine a_aload_n (pc := 119) a 0 dX0_place_119 rfl rfl ?_
      refine a_iload (pc := 120) a 4 dX0_place_120 rfl ?_
      refine a_putI (pc := 122) a 5 5 rfl tb vc0 w14 w17 (by decide) (by decide) tyX0 tyX0_ok nmX0 rfl rfl (by decide +kernel) dX0_place_122 ?_
      refine a_nmS (fun s8 hx => ?_)
      replace h := h s8 hx
      clear hx
      exact e_v (pc := 125) a hr dX0_place_125 h
    · replace h := h.2.2 hq
      clear hq
      refine a_aload_n (pc := 76) a 0 dX0_place_76 rfl rfl ?_
      refine a_aload_n (pc := 77) a 1 dX0_place_77 rfl rfl ?_
      refine a_iload (pc := 78) a 5 dX0_place_78 rfl ?_
      refine a_cvv (pc := 80) a (As := [Value.ref (ad q1), vI x5]) (rest := []) tb vc0 (fun sz => c_X0_moveTo hinj hl0 tb tq1 h sz) (cwV 2 hts (gl_V (GL_12 _ (by decide +kernel)) (GL_12 _ (by decide +kernel)) (GL_12 _ (by decide +kernel)) (GL_3 _ (by decide +kernel)) (GL_12 _ (by decide +kernel))) rfl rfl rfl (by decide +kernel) ⟨Nat.le_of_ble_eq_true rfl, Nat.le_of_ble_eq_true rfl⟩) rfl rfl (Nat.le_of_ble_eq_true rfl) ⟨Nat.le_of_ble_eq_true rfl, Nat.le_of_ble_eq_true rfl⟩ dX0_place_80 ?_
      clear h
      intro s9 h
      refine a_aload_n (pc := 83) a 0 dX0_place_83 rfl rfl ?_
      refine a_aload_n (pc := 84) a 1 dX0_place_84 rfl rfl ?_
      refine a_aload_n (pc := 85) a 2 dX0_place_85 rfl rfl ?_
      refine a_cvi (pc := 86) a (As := [Value.ref (ad q1), Value.ref (ad q3)]) (rest := []) tb vc0 (fun sz => c_X0_countCovered hinj hl0 tb tq1 tq3 h sz) (cwV 2 hts (gl_V (GL_12 _ (by decide +kernel)) (GL_12 _ (by decide +kernel)) (GL_12 _ (by decide +kernel)) (GL_3 _ (by decide +kernel)) (GL_13 _ (by decide +kernel))) rfl rfl rfl (by decide +kernel) ⟨Nat.le_of_ble_eq_true rfl, Nat.le_of_ble_eq_true rfl⟩) rfl rfl (Nat.le_of_ble_eq_true rfl) ⟨Nat.le_of_ble_eq_true rfl, Nat.le_of_ble_eq_true rfl⟩ dX0_place_86 ?_
      rintro x10 s9 ⟨hs9, h9⟩
      subst s9
      replace h := h9
      clear h9
      refine a_istore (pc := 89) a (ls1 := [(7, vI x10), (0, Value.ref (ad b)), (1, Value.ref (ad q1)), (3, Value.ref (ad q3)), (4, vI x3), (5, vI x4), (6, vI x5)]) dX0_place_89 (by decide) rfl ?_
      refine a_iload (pc := 91) a 0 dX0_place_91 rfl ?_
      refine a_iload (pc := 93) a 5 dX0_place_93 rfl ?_
      refine a_icmp_ge (pc := 95) a h.1 h.2.1 dX0_place_95 (tgt := 106) (by decide) (fun hq => ?_) (fun hq => ?_)
      · replace h := h.2.2.1 hq
        clear hq
        refine a_iinc (pc := 106) a (ls1 := [(6, vI (x5 + 1)), (7, vI x10), (0, Value.ref (ad b)), (1, Value.ref (ad q1)), (3, Value.ref (ad q3)), (4, vI x3), (5, vI x4)]) 6 dX0_place_106 rfl (by decide) rfl ?_
        refine a_goto (pc := 109) a dX0_place_109 (tgt := 70) (by decide) ?_
        refine a_sub (ls1 := [(0, Value.ref (ad b)), (1, Value.ref (ad q1)), (3, Value.ref (ad q3)), (4, vI x3), (5, vI x4), (6, vI (x5 + 1))]) [2, 3, 4, 5, 6, 0] rfl ?_
        exact hag70 x3 x4 (x5 + 1) s9 h
      · replace h := h.2.2.2 hq
        clear hq
        refine a_iload (pc := 98) a 0 dX0_place_98 rfl ?_
        refine a_istore (pc := 100) a (ls1 := [(5, vI x10), (7, vI x10), (0, Value.ref (ad b)), (1, Value.ref (ad q1)), (3, Value.ref (ad q3)), (4, vI x3), (6, vI x5)]) dX0_place_100 (by decide) rfl ?_
        refine a_iload (pc := 102) a 6 dX0_place_102 rfl ?_
        refine a_istore (pc := 104) a (ls1 := [(4, vI x5), (5, vI x10), (7, vI x10), (0, Value.ref (ad b)), (1, Value.ref (ad q1)), (3, Value.ref (ad q3)), (6, vI x5)]) dX0_place_104 (by decide) rfl ?_
        refine a_iinc (pc := 106) a (ls1 := [(6, vI (x5 + 1)), (4, vI x5), (5, vI x10), (7, vI x10), (0, Value.ref (ad b)), (1, Value.ref (ad q1)), (3, Value.ref (ad q3))]) 6 dX0_place_106 rfl (by decide) rfl ?_
        refine a_goto (pc := 109) a dX0_place_109 (tgt := 70) (by decide) ?_
        refine a_sub (ls1 := [(0, Value.ref (ad b)), (1, Value.ref (ad q1)), (3, Value.ref (ad q3)), (4, vI x5), (5, vI x10), (6, vI (x5 + 1))]) [4, 5, 6, 1, 2, 0] rfl ?_
        exact hag70 x5 x10 (x5 + 1) s9 h
  · replace h := h.2.2 hq
    clear hq
    refine a_aload_n (pc := 7) a 0 dX0_place_7 rfl rfl ?_
    refine a_cvv (pc := 8) a (As := []) (rest := []) tb vc0 (fun sz => c_X0_vanish hinj hl0 tb h sz) (cwV 0 hts (gl_V (GL_12 _ (by decide +kernel)) (GL_12 _ (by decide +kernel)) (GL_12 _ (by decide +kernel)) (GL_3 _ (by decide +kernel)) (GL_12 _ (by decide +kernel))) rfl rfl rfl (by decide +kernel) ⟨Nat.le_of_ble_eq_true rfl, Nat.le_of_ble_eq_true rfl⟩) rfl rfl (Nat.le_of_ble_eq_true rfl) ⟨Nat.le_of_ble_eq_true rfl, Nat.le_of_ble_eq_true rfl⟩ dX0_place_8 ?_
    clear h
    intro s11 h
    exact e_v (pc := 11) a hr dX0_place_11 h

set_option maxRecDepth 100000 in
set_option maxHeartbeats 4000000 in
theorem c_X0_fact {l : Launch} {D : va_G} {X : XI} {ad : Nat → Nat} (hinj : adI ad) (hl0 : l.stackTraces = false) {b : Nat} {p1 : Int} (tb : tyc b (4, 0)) {σ : St} {K : Int → Prop} (h : f_X0_fact b p1 σ K) (sz : Nat) : Met l yX0_fact (WW (.code yX0_fact cX0_fact 2 (some .int))) { frames := 0, cells := 0, slots := 0, locals := 0 } (va_Pc [Value.ref (ad b), vI p1] (WD D X ad σ sz)) (QI D X ad sz (fun r τ => τ = σ ∧ K r)) 0 0 (AA ad sz) := by
  refine a_start (cc := cX0_fact) (maxL := 2) (ret := (some .int)) (own := RX0) [Value.ref (ad b), vI p1] (by decide) rfl rfl (Nat.le_of_ble_eq_true rfl) hinj hl0 ?_
  intro p e s m below meth c a hr hsz
  subst hsz
  have hts := a.1.2.2.2.2
  have w1 := hts (Cond.fieldLink RX0 58 "SightLegend$Box" "corner" "I") (List.mem_cons_of_mem _ (GL_8 _ (by decide +kernel)))
  have w2 : ∀ w ∈ u_ws RX0 TX0 6, w ∈ WW (.code yX0_fact cX0_fact 2 (some .int)) := fun w h => List.mem_cons_of_mem _ (inlX0 w h)
  have w3 := hts (Cond.fieldLink RX0 61 "SightLegend$Box" "left" "I") (List.mem_cons_of_mem _ (GL_8 _ (by decide +kernel)))
  have w4 := hts (Cond.fieldLink RX0 64 "SightLegend$Box" "top" "I") (List.mem_cons_of_mem _ (GL_8 _ (by decide +kernel)))
  have w5 := hts (Cond.fieldLink RX0 38 "SightLegend$Box" "width" "I") (List.mem_cons_of_mem _ (GL_8 _ (by decide +kernel)))
  have w6 := hts (Cond.fieldLink RX0 44 "SightLegend$Box" "height" "I") (List.mem_cons_of_mem _ (GL_8 _ (by decide +kernel)))
  have w7 := hts (Cond.fieldLink RX0 55 "SightLegend$Box" "covered" "I") (List.mem_cons_of_mem _ (GL_12 _ (by decide +kernel)))
  unfold f_X0_fact at h
  refine a_sub (ls1 := [(0, Value.ref (ad b)), (1, vI p1)]) [0, 1] rfl ?_
  refine a_iload_n (pc := 0) a 1 dX0_fact_0 rfl rfl ?_
  have hsw : p1 = 0 ∨ p1 = 1 ∨ p1 = 2 ∨ p1 = 3 ∨ p1 = 4 ∨ (p1 < 0 ∨ 4 < p1) := by omega
  rcases hsw with hq | hq | hq | hq | hq | hq
  · replace h := h.2.1 hq
    refine a_tsIn (pc := 1) a 0 hq ⟨by decide, by decide⟩ dX0_fact_1 (by decide) (by decide) rfl (tgt := 36) (by decide) ?_
    clear hq
    refine a_aload_n (pc := 36) a 0 dX0_fact_36 rfl rfl ?_
    refine a_getI (pc := 37) a 0 0 rfl tb vc0 w2 w1 (by decide) (by decide) rfl dX0_fact_37 ?_
    exact e_i (pc := 40) a hr dX0_fact_40 ⟨rfl, h⟩
  · replace h := h.2.2.1 hq
    refine a_tsIn (pc := 1) a 1 hq ⟨by decide, by decide⟩ dX0_fact_1 (by decide) (by decide) rfl (tgt := 41) (by decide) ?_
    clear hq
    refine a_aload_n (pc := 41) a 0 dX0_fact_41 rfl rfl ?_
    refine a_getI (pc := 42) a 1 1 rfl tb vc0 w2 w3 (by decide) (by decide) rfl dX0_fact_42 ?_
    exact e_i (pc := 45) a hr dX0_fact_45 ⟨rfl, h⟩
  · replace h := h.2.2.2.1 hq
    refine a_tsIn (pc := 1) a 2 hq ⟨by decide, by decide⟩ dX0_fact_1 (by decide) (by decide) rfl (tgt := 46) (by decide) ?_
    clear hq
    refine a_aload_n (pc := 46) a 0 dX0_fact_46 rfl rfl ?_
    refine a_getI (pc := 47) a 2 2 rfl tb vc0 w2 w4 (by decide) (by decide) rfl dX0_fact_47 ?_
    exact e_i (pc := 50) a hr dX0_fact_50 ⟨rfl, h⟩
  · replace h := h.2.2.2.2.1 hq
    refine a_tsIn (pc := 1) a 3 hq ⟨by decide, by decide⟩ dX0_fact_1 (by decide) (by decide) rfl (tgt := 51) (by decide) ?_
    clear hq
    refine a_aload_n (pc := 51) a 0 dX0_fact_51 rfl rfl ?_
    refine a_getI (pc := 52) a 3 3 rfl tb vc0 w2 w5 (by decide) (by decide) rfl dX0_fact_52 ?_
    exact e_i (pc := 55) a hr dX0_fact_55 ⟨rfl, h⟩
  · replace h := h.2.2.2.2.2.1 hq
    refine a_tsIn (pc := 1) a 4 hq ⟨by decide, by decide⟩ dX0_fact_1 (by decide) (by decide) rfl (tgt := 56) (by decide) ?_
    clear hq
    refine a_aload_n (pc := 56) a 0 dX0_fact_56 rfl rfl ?_
    refine a_getI (pc := 57) a 4 4 rfl tb vc0 w2 w6 (by decide) (by decide) rfl dX0_fact_57 ?_
    exact e_i (pc := 60) a hr dX0_fact_60 ⟨rfl, h⟩
  · have hr := h.1
    replace h := h.2.2.2.2.2.2 hq
    refine a_tsOut (pc := 1) a hr dX0_fact_1 hq (tgt := 61) (by decide) ?_
    clear hq hr
    refine a_aload_n (pc := 61) a 0 dX0_fact_61 rfl rfl ?_
    refine a_getI (pc := 62) a 5 5 rfl tb vc0 w2 w7 (by decide) (by decide) rfl dX0_fact_62 ?_
    exact e_i (pc := 65) a hr dX0_fact_65 ⟨rfl, h⟩

set_option maxRecDepth 100000 in
set_option maxHeartbeats 4000000 in
theorem c_X2_copyFrom {l : Launch} {D : va_G} {X : XI} {ad : Nat → Nat} (hinj : adI ad) (hl0 : l.stackTraces = false) {b : Nat} {q1 : Nat} (tb : tyc b (6, 0)) (tq1 : tyc q1 (6, 0)) {σ : St} {K : St → Prop} (h : f_X2_copyFrom b q1 σ K) (sz : Nat) : Met l yX2_copyFrom (WW (.code yX2_copyFrom cX2_copyFrom 3 none)) { frames := 0, cells := 0, slots := 0, locals := 0 } (va_Pc [Value.ref (ad b), Value.ref (ad q1)] (WD D X ad σ sz)) (QV D X ad sz K) 0 0 (AA ad sz) := by
  refine a_start (cc := cX2_copyFrom) (maxL := 3) (ret := none) (own := RX2) [Value.ref (ad b), Value.ref (ad q1)] (by decide) rfl rfl (Nat.le_of_ble_eq_true rfl) hinj hl0 ?_
  intro p e s m below meth c a hr hsz
  subst hsz
  have hts := a.1.2.2.2.2
  have w1 := hts (Cond.fieldLink RX2 43 "SightLegend$Lines" "size" "I") (List.mem_cons_of_mem _ (GL_9 _ (by decide +kernel)))
  have w2 : ∀ w ∈ u_ws RX2 TX2 14, w ∈ WW (.code yX2_copyFrom cX2_copyFrom 3 none) := fun w h => List.mem_cons_of_mem _ (inlX2 w h)
  have w3 := hts (Cond.fieldLink RX2 9 "SightLegend$Lines" "type" "[I") (List.mem_cons_of_mem _ (GL_4 _ (by decide +kernel)))
  have w4 : tyc (b + 1) (0, 77) := ty_of (d := 1) (t1 := (0, 77)) (by decide +kernel) rfl tb
  have w5 : tyc (q1 + 1) (0, 77) := ty_of (d := 1) (t1 := (0, 77)) (by decide +kernel) rfl tq1
  have w6 := hts (Cond.fieldLink RX2 15 "SightLegend$Lines" "kind" "[I") (List.mem_cons_of_mem _ (GL_4 _ (by decide +kernel)))
  have w7 : tyc (b + 2) (0, 77) := ty_of (d := 2) (t1 := (0, 77)) (by decide +kernel) rfl tb
  have w8 : tyc (q1 + 2) (0, 77) := ty_of (d := 2) (t1 := (0, 77)) (by decide +kernel) rfl tq1
  have w9 := hts (Cond.fieldLink RX2 18 "SightLegend$Lines" "group" "[I") (List.mem_cons_of_mem _ (GL_4 _ (by decide +kernel)))
  have w10 : tyc (b + 3) (0, 77) := ty_of (d := 3) (t1 := (0, 77)) (by decide +kernel) rfl tb
  have w11 : tyc (q1 + 3) (0, 77) := ty_of (d := 3) (t1 := (0, 77)) (by decide +kernel) rfl tq1
  have w12 := hts (Cond.fieldLink RX2 21 "SightLegend$Lines" "first" "[I") (List.mem_cons_of_mem _ (GL_4 _ (by decide +kernel)))
  have w13 : tyc (b + 4) (0, 77) := ty_of (d := 4) (t1 := (0, 77)) (by decide +kernel) rfl tb
  have w14 : tyc (q1 + 4) (0, 77) := ty_of (d := 4) (t1 := (0, 77)) (by decide +kernel) rfl tq1
  have w15 := hts (Cond.fieldLink RX2 24 "SightLegend$Lines" "last" "[I") (List.mem_cons_of_mem _ (GL_4 _ (by decide +kernel)))
  have w16 : tyc (b + 5) (0, 77) := ty_of (d := 5) (t1 := (0, 77)) (by decide +kernel) rfl tb
  have w17 : tyc (q1 + 5) (0, 77) := ty_of (d := 5) (t1 := (0, 77)) (by decide +kernel) rfl tq1
  unfold f_X2_copyFrom at h
  refine a_sub (ls1 := [(0, Value.ref (ad b)), (1, Value.ref (ad q1))]) [0, 1] rfl ?_
  refine a_aload_n (pc := 0) a 0 dX2_copyFrom_0 rfl rfl ?_
  refine a_aload_n (pc := 1) a 1 dX2_copyFrom_1 rfl rfl ?_
  refine a_getI (pc := 2) a 0 0 rfl tq1 vc2 w2 w1 (by decide) (by decide) rfl dX2_copyFrom_2 ?_
  refine a_putI (pc := 5) a 0 0 rfl tb vc2 w2 w1 (by decide) (by decide) tyX2 tyX2_ok nmX2 rfl rfl (by decide +kernel) dX2_copyFrom_5 ?_
  refine a_nmS (fun s1 hx => ?_)
  replace h := h s1 hx
  clear hx
  refine a_iconst (pc := 8) a dX2_copyFrom_8 ?_
  refine a_istore_n (pc := 9) a (ls1 := [(2, vI 0), (0, Value.ref (ad b)), (1, Value.ref (ad q1))]) dX2_copyFrom_9 rfl (by decide) rfl ?_
  refine a_sub (ls1 := [(0, Value.ref (ad b)), (1, Value.ref (ad q1)), (2, vI 0)]) [1, 2, 0] rfl ?_
  refine g_wl1s (fun x2 => [(0, Value.ref (ad b)), (1, Value.ref (ad q1)), (2, vI x2)]) h ?_
  clear h
  intro x2 s3 ag10 hag10 h
  refine a_iload_n (pc := 10) a 2 dX2_copyFrom_10 rfl rfl ?_
  refine a_aload_n (pc := 11) a 0 dX2_copyFrom_11 rfl rfl ?_
  refine a_getI (pc := 12) a 0 0 rfl tb vc2 w2 w1 (by decide) (by decide) rfl dX2_copyFrom_12 ?_
  refine a_icmp_ge (pc := 15) a h.1 h.2.1 dX2_copyFrom_15 (tgt := 84) (by decide) (fun hq => ?_) (fun hq => ?_)
  · replace h := h.2.2.1 hq
    clear hq
    exact e_v (pc := 84) a hr dX2_copyFrom_84 h
  · replace h := h.2.2.2 hq
    clear hq
    refine a_aload_n (pc := 18) a 0 dX2_copyFrom_18 rfl rfl ?_
    refine a_getR (pc := 19) a 1 1 rfl tb vc2 w2 w3 (by decide) (by decide) 1 (q := (b + 1)) rfl rfl dX2_copyFrom_19 ?_
    refine a_iload_n (pc := 22) a 2 dX2_copyFrom_22 rfl rfl ?_
    refine a_aload_n (pc := 23) a 1 dX2_copyFrom_23 rfl rfl ?_
    refine a_getR (pc := 24) a 1 1 rfl tq1 vc2 w2 w3 (by decide) (by decide) 1 (q := (q1 + 1)) rfl rfl dX2_copyFrom_24 ?_
    refine a_iload_n (pc := 27) a 2 dX2_copyFrom_27 rfl rfl ?_
    refine a_iald (pc := 28) a (tw hinj w5) (by decide) h.1 dX2_copyFrom_28 ?_
    replace h := h.2
    refine a_iast (pc := 29) a (tw hinj w4) (by decide) h.1 dX2_copyFrom_29 ?_
    replace h := h.2
    refine a_nmS (fun s4 hx => ?_)
    replace h := h s4 hx
    clear hx
    refine a_aload_n (pc := 30) a 0 dX2_copyFrom_30 rfl rfl ?_
    refine a_getR (pc := 31) a 2 2 rfl tb vc2 w2 w6 (by decide) (by decide) 2 (q := (b + 2)) rfl rfl dX2_copyFrom_31 ?_
    refine a_iload_n (pc := 34) a 2 dX2_copyFrom_34 rfl rfl ?_
    refine a_aload_n (pc := 35) a 1 dX2_copyFrom_35 rfl rfl ?_
    refine a_getR (pc := 36) a 2 2 rfl tq1 vc2 w2 w6 (by decide) (by decide) 2 (q := (q1 + 2)) rfl rfl dX2_copyFrom_36 ?_
    refine a_iload_n (pc := 39) a 2 dX2_copyFrom_39 rfl rfl ?_
    refine a_iald (pc := 40) a (tw hinj w8) (by decide) h.1 dX2_copyFrom_40 ?_
    replace h := h.2
    refine a_iast (pc := 41) a (tw hinj w7) (by decide) h.1 dX2_copyFrom_41 ?_
    replace h := h.2
    refine a_nmS (fun s5 hx => ?_)
    replace h := h s5 hx
    clear hx
    refine a_aload_n (pc := 42) a 0 dX2_copyFrom_42 rfl rfl ?_
    refine a_getR (pc := 43) a 3 3 rfl tb vc2 w2 w9 (by decide) (by decide) 3 (q := (b + 3)) rfl rfl dX2_copyFrom_43 ?_
    refine a_iload_n (pc := 46) a 2 dX2_copyFrom_46 rfl rfl ?_
    refine a_aload_n (pc := 47) a 1 dX2_copyFrom_47 rfl rfl ?_
    refine a_getR (pc := 48) a 3 3 rfl tq1 vc2 w2 w9 (by decide) (by decide) 3 (q := (q1 + 3)) rfl rfl dX2_copyFrom_48 ?_
    refine a_iload_n (pc := 51) a 2 dX2_copyFrom_51 rfl rfl ?_
    refine a_iald (pc := 52) a (tw hinj w11) (by decide) h.1 dX2_copyFrom_52 ?_
    replace h := h.2
    refine a_iast (pc := 53) a (tw hinj w10) (by decide) h.1 dX2_copyFrom_53 ?_
    replace h := h.2
    refine a_nmS (fun s6 hx => ?_)
    replace h := h s6 hx
    clear hx
    refine a_aload_n (pc := 54) a 0 dX2_copyFrom_54 rfl rfl ?_
    refine a_getR (pc := 55) a 4 4 rfl tb vc2 w2 w12 (by decide) (by decide) 4 (q := (b + 4)) rfl rfl dX2_copyFrom_55 ?_
    refine a_iload_n (pc := 58) a 2 dX2_copyFrom_58 rfl rfl ?_
    refine a_aload_n (pc := 59) a 1 dX2_copyFrom_59 rfl rfl ?_
    refine a_getR (pc := 60) a 4 4 rfl tq1 vc2 w2 w12 (by decide) (by decide) 4 (q := (q1 + 4)) rfl rfl dX2_copyFrom_60 ?_
    refine a_iload_n (pc := 63) a 2 dX2_copyFrom_63 rfl rfl ?_
    refine a_iald (pc := 64) a (tw hinj w14) (by decide) h.1 dX2_copyFrom_64 ?_
    replace h := h.2
    refine a_iast (pc := 65) a (tw hinj w13) (by decide) h.1 dX2_copyFrom_65 ?_
    replace h := h.2
    refine a_nmS (fun s7 hx => ?_)
    replace h := h s7 hx
    clear hx
    refine a_aload_n (pc := 66) a 0 dX2_copyFrom_66 rfl rfl ?_
    refine a_getR (pc := 67) a 5 5 rfl tb vc2 w2 w15 (by decide) (by decide) 5 (q := (b + 5)) rfl rfl dX2_copyFrom_67 ?_
    refine a_iload_n (pc := 70) a 2 dX2_copyFrom_70 rfl rfl ?_
    refine a_aload_n (pc := 71) a 1 dX2_copyFrom_71 rfl rfl ?_
    refine a_getR (pc := 72) a 5 5 rfl tq1 vc2 w2 w15 (by decide) (by decide) 5 (q := (q1 + 5)) rfl rfl dX2_copyFrom_72 ?_
    refine a_iload_n (pc := 75) a 2 dX2_copyFrom_75 rfl rfl ?_
    refine a_iald (pc := 76) a (tw hinj w17) (by decide) h.1 dX2_copyFrom_76 ?_
    replace h := h.2
    refine a_iast (pc := 77) a (tw hinj w16) (by decide) h.1 dX2_copyFrom_77 ?_
    replace h := h.2
    refine a_nmS (fun s8 hx => ?_)
    replace h := h s8 hx
    clear hx
    refine a_iinc (pc := 78) a (ls1 := [(2, vI (x2 + 1)), (0, Value.ref (ad b)), (1, Value.ref (ad q1))]) 2 dX2_copyFrom_78 rfl (by decide) rfl ?_
    refine a_goto (pc := 81) a dX2_copyFrom_81 (tgt := 10) (by decide) ?_
    refine a_sub (ls1 := [(0, Value.ref (ad b)), (1, Value.ref (ad q1)), (2, vI (x2 + 1))]) [1, 2, 0] rfl ?_
    exact hag10 (x2 + 1) s8 h

set_option maxRecDepth 100000 in
set_option maxHeartbeats 4000000 in
theorem c_X4_countSigns {l : Launch} {D : va_G} {X : XI} {ad : Nat → Nat} (hinj : adI ad) (hl0 : l.stackTraces = false) {b : Nat} {q1 : Nat} {q2 : Nat} (tb : tyc b (8, 0)) (tq1 : tyc q1 (7, 0)) (tq2 : tyc q2 (1, 40)) {σ : St} {K : St → Prop} (h : f_X4_countSigns b q1 q2 σ K) (sz : Nat) : Met l yX4_countSigns (WW (.code yX4_countSigns cX4_countSigns 5 none)) { frames := 1, cells := 0, slots := 0, locals := 24 } (va_Pc [Value.ref (ad b), Value.ref (ad q1), Value.ref (ad q2)] (WD D X ad σ sz)) (QV D X ad sz K) 0 0 (AA ad sz) := by
  refine a_start (cc := cX4_countSigns) (maxL := 5) (ret := none) (own := RX4) [Value.ref (ad b), Value.ref (ad q1), Value.ref (ad q2)] (by decide) rfl rfl (Nat.le_of_ble_eq_true rfl) hinj hl0 ?_
  intro p e s m below meth c a hr hsz
  subst hsz
  have hts := a.1.2.2.2.2
  have w1 := hts (Cond.fieldLink RX4 52 "SightLegend$MapState" "signCount" "I") (List.mem_cons_of_mem _ (GL_9 _ (by decide +kernel)))
  have w2 : ∀ w ∈ u_ws RX3 TX3 13, w ∈ WW (.code yX4_countSigns cX4_countSigns 5 none) := fun w h => List.mem_cons_of_mem _ (inlX3 w h)
  have w3 := hts (Cond.fieldLink RX4 56 "SightLegend$MapState" "signKind" "[I") (List.mem_cons_of_mem _ (GL_9 _ (by decide +kernel)))
  have w4 : tyc (q1 + 1) (0, 40) := ty_of (d := 1) (t1 := (0, 40)) (by decide +kernel) rfl tq1
  have w5 := hts (Cond.fieldLink RX4 9 "SightLegend$Ranges" "total" "[I") (List.mem_cons_of_mem _ (GL_3 _ (by decide +kernel)))
  have w6 : ∀ w ∈ u_ws RX4 TX4 6, w ∈ WW (.code yX4_countSigns cX4_countSigns 5 none) := fun w h => List.mem_cons_of_mem _ (inlX4 w h)
  have w7 : tyc (b + 1) (0, 12) := ty_of (d := 1) (t1 := (0, 12)) (by decide +kernel) rfl tb
  have w8 := hts (Cond.fieldLink RX4 15 "SightLegend$Ranges" "classSigns" "[I") (List.mem_cons_of_mem _ (GL_3 _ (by decide +kernel)))
  have w9 : tyc (b + 2) (0, 72) := ty_of (d := 2) (t1 := (0, 72)) (by decide +kernel) rfl tb
  unfold f_X4_countSigns at h
  refine a_sub (ls1 := [(0, Value.ref (ad b)), (1, Value.ref (ad q1)), (2, Value.ref (ad q2))]) [0, 1, 2] rfl ?_
  refine a_iconst (pc := 0) a dX4_countSigns_0 ?_
  refine a_istore_n (pc := 1) a (ls1 := [(3, vI 0), (0, Value.ref (ad b)), (1, Value.ref (ad q1)), (2, Value.ref (ad q2))]) dX4_countSigns_1 rfl (by decide) rfl ?_
  refine a_sub (ls1 := [(0, Value.ref (ad b)), (1, Value.ref (ad q1)), (2, Value.ref (ad q2)), (3, vI 0)]) [1, 2, 3, 0] rfl ?_
  refine g_wl1s (fun x1 => [(0, Value.ref (ad b)), (1, Value.ref (ad q1)), (2, Value.ref (ad q2)), (3, vI x1)]) h ?_
  clear h
  intro x1 s2 ag2 hag2 h
  refine a_iload_n (pc := 2) a 3 dX4_countSigns_2 rfl rfl ?_
  refine a_bipush (pc := 3) a dX4_countSigns_3 (by decide) ?_
  refine a_icmp_ge (pc := 5) a h.1 ⟨by decide, by decide⟩ dX4_countSigns_5 (tgt := 21) (by decide) (fun hq => ?_) (fun hq => ?_)
  · replace h := h.2.1 hq
    clear hq
    refine a_iconst (pc := 21) a dX4_countSigns_21 ?_
    refine a_istore_n (pc := 22) a (ls1 := [(3, vI 0), (0, Value.ref (ad b)), (1, Value.ref (ad q1)), (2, Value.ref (ad q2))]) dX4_countSigns_22 rfl (by decide) rfl ?_
    refine a_sub (ls1 := [(0, Value.ref (ad b)), (1, Value.ref (ad q1)), (2, Value.ref (ad q2)), (3, vI 0)]) [1, 2, 3, 0] rfl ?_
    refine g_wl1s (fun x3 => [(0, Value.ref (ad b)), (1, Value.ref (ad q1)), (2, Value.ref (ad q2)), (3, vI x3)]) h ?_
    clear h
    intro x3 s4 ag23 hag23 h
    refine a_iload_n (pc := 23) a 3 dX4_countSigns_23 rfl rfl ?_
    refine a_bipush (pc := 24) a dX4_countSigns_24 (by decide) ?_
    refine a_icmp_ge (pc := 26) a h.1 ⟨by decide, by decide⟩ dX4_countSigns_26 (tgt := 42) (by decide) (fun hq => ?_) (fun hq => ?_)
    · replace h := h.2.1 hq
      clear hq
      refine a_iconst (pc := 42) a dX4_countSigns_42 ?_
      refine a_istore_n (pc := 43) a (ls1 := [(3, vI 0), (0, Value.ref (ad b)), (1, Value.ref (ad q1)), (2, Value.ref (ad q2))]) dX4_countSigns_43 rfl (by decide) rfl ?_
      refine a_sub (ls1 := [(0, Value.ref (ad b)), (1, Value.ref (ad q1)), (2, Value.ref (ad q2)), (3, vI 0)]) [1, 2, 3, 0] rfl ?_
      refine g_wl1s (fun x5 => [(0, Value.ref (ad b)), (1, Value.ref (ad q1)), (2, Value.ref (ad q2)), (3, vI x5)]) h ?_
      clear h
      intro x5 s6 ag44 hag44 h
      refine a_iload_n (pc := 44) a 3 dX4_countSigns_44 rfl rfl ?_
      refine a_aload_n (pc := 45) a 1 dX4_countSigns_45 rfl rfl ?_
      refine a_getI (pc := 46) a 5 5 rfl tq1 vc3 w2 w1 (by decide) (by decide) rfl dX4_countSigns_46 ?_
      refine a_icmp_ge (pc := 49) a h.1 h.2.1 dX4_countSigns_49 (tgt := 103) (by decide) (fun hq => ?_) (fun hq => ?_)
      · replace h := h.2.2.1 hq
        clear hq
        exact e_v (pc := 103) a hr dX4_countSigns_103 h
      · replace h := h.2.2.2 hq
        clear hq
        refine a_aload_n (pc := 52) a 2 dX4_countSigns_52 rfl rfl ?_
        refine a_iload_n (pc := 53) a 3 dX4_countSigns_53 rfl rfl ?_
        refine a_zald (pc := 54) a (tw hinj tq2) (by decide) h.1 dX4_countSigns_54 ?_
        replace h := h.2
        refine a_if_eq (pc := 55) a h.1 dX4_countSigns_55 (tgt := 97) (by decide) (fun hq => ?_) (fun hq => ?_)
        · replace h := h.2.1 hq
          clear hq
          refine a_iinc (pc := 97) a (ls1 := [(3, vI (x5 + 1)), (0, Value.ref (ad b)), (1, Value.ref (ad q1)), (2, Value.ref (ad q2))]) 3 dX4_countSigns_97 rfl (by decide) rfl ?_
          refine a_goto (pc := 100) a dX4_countSigns_100 (tgt := 44) (by decide) ?_
          refine a_sub (ls1 := [(0, Value.ref (ad b)), (1, Value.ref (ad q1)), (2, Value.ref (ad q2)), (3, vI (x5 + 1))]) [1, 2, 3, 0] rfl ?_
          exact hag44 (x5 + 1) s6 h
        · replace h := h.2.2 hq
          clear hq
          refine a_aload_n (pc := 58) a 1 dX4_countSigns_58 rfl rfl ?_
          refine a_getR (pc := 59) a 0 0 rfl tq1 vc3 w2 w3 (by decide) (by decide) 1 (q := (q1 + 1)) rfl rfl dX4_countSigns_59 ?_
          refine a_iload_n (pc := 62) a 3 dX4_countSigns_62 rfl rfl ?_
          refine a_iald (pc := 63) a (tw hinj w4) (by decide) h.1 dX4_countSigns_63 ?_
          replace h := h.2
          refine a_nm (fun x7 hx => ?_)
          replace h := h x7 hx
          clear hx
          refine a_istore (pc := 64) a (ls1 := [(4, vI x7), (0, Value.ref (ad b)), (1, Value.ref (ad q1)), (2, Value.ref (ad q2)), (3, vI x5)]) dX4_countSigns_64 (by decide) rfl ?_
          refine a_aload_n (pc := 66) a 1 dX4_countSigns_66 rfl rfl ?_
          refine a_getR (pc := 67) a 0 0 rfl tb vc4 w6 w5 (by decide) (by decide) 1 (q := (b + 1)) rfl rfl dX4_countSigns_67 ?_
          refine a_iload (pc := 70) a 0 dX4_countSigns_70 rfl ?_
          refine a_dup2 (pc := 72) a rfl rfl dX4_countSigns_72 ?_
          refine a_iald (pc := 73) a (tw hinj w7) (by decide) h.1 dX4_countSigns_73 ?_
          replace h := h.2
          refine a_iconst (pc := 74) a dX4_countSigns_74 ?_
          refine a_iadd (pc := 75) a dX4_countSigns_75 ?_
          refine a_iast (pc := 76) a (tw hinj w7) (by decide) h.1 dX4_countSigns_76 ?_
          replace h := h.2
          refine a_nmS (fun s8 hx => ?_)
          replace h := h s8 hx
          clear hx
          refine a_aload_n (pc := 77) a 1 dX4_countSigns_77 rfl rfl ?_
          refine a_getR (pc := 78) a 1 1 rfl tb vc4 w6 w8 (by decide) (by decide) 2 (q := (b + 2)) rfl rfl dX4_countSigns_78 ?_
          refine a_iload (pc := 81) a 0 dX4_countSigns_81 rfl ?_
          refine a_bipush (pc := 83) a dX4_countSigns_83 (by decide) ?_
          refine a_imul (pc := 85) a dX4_countSigns_85 ?_
          refine a_aload_n (pc := 86) a 2 dX4_countSigns_86 rfl rfl ?_
          refine a_iload_n (pc := 87) a 4 dX4_countSigns_87 rfl rfl ?_
          refine a_cvi (pc := 88) a (As := [vI x5]) (rest := [vI (x7 * 6), Value.ref (ad (b + 2))]) tq1 vc3 (fun sz => c_X3_classOf hinj hl0 tq1 h sz) (cwV 1 hts (gl_V (GL_10 _ (by decide +kernel)) (GL_10 _ (by decide +kernel)) (GL_10 _ (by decide +kernel)) (GL_1 _ (by decide +kernel)) (GL_10 _ (by decide +kernel))) rfl rfl rfl (by decide +kernel) ⟨Nat.le_of_ble_eq_true rfl, Nat.le_of_ble_eq_true rfl⟩) rfl rfl (Nat.le_of_ble_eq_true rfl) ⟨Nat.le_of_ble_eq_true rfl, Nat.le_of_ble_eq_true rfl⟩ dX4_countSigns_88 ?_
          rintro x9 s9 ⟨hs9, h9⟩
          subst s9
          replace h := h9
          clear h9
          refine a_iadd (pc := 91) a dX4_countSigns_91 ?_
          refine a_dup2 (pc := 92) a rfl rfl dX4_countSigns_92 ?_
          refine a_iald (pc := 93) a (tw hinj w9) (by decide) h.1 dX4_countSigns_93 ?_
          replace h := h.2
          refine a_iconst (pc := 94) a dX4_countSigns_94 ?_
          refine a_iadd (pc := 95) a dX4_countSigns_95 ?_
          refine a_iast (pc := 96) a (tw hinj w9) (by decide) h.1 dX4_countSigns_96 ?_
          replace h := h.2
          refine a_nmS (fun s10 hx => ?_)
          replace h := h s10 hx
          clear hx
          refine a_iinc (pc := 97) a (ls1 := [(3, vI (x5 + 1)), (4, vI x7), (0, Value.ref (ad b)), (1, Value.ref (ad q1)), (2, Value.ref (ad q2))]) 4 dX4_countSigns_97 rfl (by decide) rfl ?_
          refine a_goto (pc := 100) a dX4_countSigns_100 (tgt := 44) (by decide) ?_
          refine a_sub (ls1 := [(0, Value.ref (ad b)), (1, Value.ref (ad q1)), (2, Value.ref (ad q2)), (3, vI (x5 + 1))]) [2, 3, 4, 0] rfl ?_
          exact hag44 (x5 + 1) s10 h
    · replace h := h.2.2 hq
      clear hq
      refine a_aload_n (pc := 29) a 0 dX4_countSigns_29 rfl rfl ?_
      refine a_getR (pc := 30) a 1 1 rfl tb vc4 w6 w8 (by decide) (by decide) 2 (q := (b + 2)) rfl rfl dX4_countSigns_30 ?_
      refine a_iload_n (pc := 33) a 3 dX4_countSigns_33 rfl rfl ?_
      refine a_iconst (pc := 34) a dX4_countSigns_34 ?_
      refine a_iast (pc := 35) a (tw hinj w9) (by decide) h.1 dX4_countSigns_35 ?_
      replace h := h.2
      refine a_nmS (fun s11 hx => ?_)
      replace h := h s11 hx
      clear hx
      refine a_iinc (pc := 36) a (ls1 := [(3, vI (x3 + 1)), (0, Value.ref (ad b)), (1, Value.ref (ad q1)), (2, Value.ref (ad q2))]) 3 dX4_countSigns_36 rfl (by decide) rfl ?_
      refine a_goto (pc := 39) a dX4_countSigns_39 (tgt := 23) (by decide) ?_
      refine a_sub (ls1 := [(0, Value.ref (ad b)), (1, Value.ref (ad q1)), (2, Value.ref (ad q2)), (3, vI (x3 + 1))]) [1, 2, 3, 0] rfl ?_
      exact hag23 (x3 + 1) s11 h
  · replace h := h.2.2 hq
    clear hq
    refine a_aload_n (pc := 8) a 0 dX4_countSigns_8 rfl rfl ?_
    refine a_getR (pc := 9) a 0 0 rfl tb vc4 w6 w5 (by decide) (by decide) 1 (q := (b + 1)) rfl rfl dX4_countSigns_9 ?_
    refine a_iload_n (pc := 12) a 3 dX4_countSigns_12 rfl rfl ?_
    refine a_iconst (pc := 13) a dX4_countSigns_13 ?_
    refine a_iast (pc := 14) a (tw hinj w7) (by decide) h.1 dX4_countSigns_14 ?_
    replace h := h.2
    refine a_nmS (fun s12 hx => ?_)
    replace h := h s12 hx
    clear hx
    refine a_iinc (pc := 15) a (ls1 := [(3, vI (x1 + 1)), (0, Value.ref (ad b)), (1, Value.ref (ad q1)), (2, Value.ref (ad q2))]) 3 dX4_countSigns_15 rfl (by decide) rfl ?_
    refine a_goto (pc := 18) a dX4_countSigns_18 (tgt := 2) (by decide) ?_
    refine a_sub (ls1 := [(0, Value.ref (ad b)), (1, Value.ref (ad q1)), (2, Value.ref (ad q2)), (3, vI (x1 + 1))]) [1, 2, 3, 0] rfl ?_
    exact hag2 (x1 + 1) s12 h

set_option maxRecDepth 100000 in
set_option maxHeartbeats 4000000 in
theorem c_X4_takeClasses {l : Launch} {D : va_G} {X : XI} {ad : Nat → Nat} (hinj : adI ad) (hl0 : l.stackTraces = false) {b : Nat} {p1 : Int} (tb : tyc b (8, 0)) {σ : St} {K : St → Prop} (h : f_X4_takeClasses b p1 σ K) (sz : Nat) : Met l yX4_takeClasses (WW (.code yX4_takeClasses cX4_takeClasses 5 none)) { frames := 0, cells := 0, slots := 0, locals := 0 } (va_Pc [Value.ref (ad b), vI p1] (WD D X ad σ sz)) (QV D X ad sz K) 0 0 (AA ad sz) := by
  refine a_start (cc := cX4_takeClasses) (maxL := 5) (ret := none) (own := RX4) [Value.ref (ad b), vI p1] (by decide) rfl rfl (Nat.le_of_ble_eq_true rfl) hinj hl0 ?_
  intro p e s m below meth c a hr hsz
  subst hsz
  have hts := a.1.2.2.2.2
  have w1 := hts (Cond.fieldLink RX4 18 "SightLegend$Ranges" "size" "[I") (List.mem_cons_of_mem _ (GL_3 _ (by decide +kernel)))
  have w2 : ∀ w ∈ u_ws RX4 TX4 6, w ∈ WW (.code yX4_takeClasses cX4_takeClasses 5 none) := fun w h => List.mem_cons_of_mem _ (inlX4 w h)
  have w3 : tyc (b + 3) (0, 12) := ty_of (d := 3) (t1 := (0, 12)) (by decide +kernel) rfl tb
  have w4 := hts (Cond.fieldLink RX4 15 "SightLegend$Ranges" "classSigns" "[I") (List.mem_cons_of_mem _ (GL_3 _ (by decide +kernel)))
  have w5 : tyc (b + 2) (0, 72) := ty_of (d := 2) (t1 := (0, 72)) (by decide +kernel) rfl tb
  have w6 := hts (Cond.fieldLink RX4 21 "SightLegend$Ranges" "first" "[I") (List.mem_cons_of_mem _ (GL_3 _ (by decide +kernel)))
  have w7 : tyc (b + 4) (0, 72) := ty_of (d := 4) (t1 := (0, 72)) (by decide +kernel) rfl tb
  have w8 := hts (Cond.fieldLink RX4 24 "SightLegend$Ranges" "last" "[I") (List.mem_cons_of_mem _ (GL_3 _ (by decide +kernel)))
  have w9 : tyc (b + 5) (0, 72) := ty_of (d := 5) (t1 := (0, 72)) (by decide +kernel) rfl tb
  have w10 := hts (Cond.fieldLink RX4 27 "SightLegend$Ranges" "signs" "[I") (List.mem_cons_of_mem _ (GL_3 _ (by decide +kernel)))
  have w11 : tyc (b + 6) (0, 72) := ty_of (d := 6) (t1 := (0, 72)) (by decide +kernel) rfl tb
  unfold f_X4_takeClasses at h
  refine a_sub (ls1 := [(0, Value.ref (ad b)), (1, vI p1)]) [0, 1] rfl ?_
  refine a_iload_n (pc := 0) a 1 dX4_takeClasses_0 rfl rfl ?_
  refine a_bipush (pc := 1) a dX4_takeClasses_1 (by decide) ?_
  refine a_imul (pc := 3) a dX4_takeClasses_3 ?_
  refine a_nm (fun x1 hx => ?_)
  replace h := h x1 hx
  clear hx
  refine a_istore_n (pc := 4) a (ls1 := [(2, vI x1), (0, Value.ref (ad b)), (1, vI p1)]) dX4_takeClasses_4 rfl (by decide) rfl ?_
  refine a_aload_n (pc := 5) a 1 dX4_takeClasses_5 rfl rfl ?_
  refine a_getR (pc := 6) a 2 2 rfl tb vc4 w2 w1 (by decide) (by decide) 3 (q := (b + 3)) rfl rfl dX4_takeClasses_6 ?_
  refine a_iload_n (pc := 9) a 2 dX4_takeClasses_9 rfl rfl ?_
  refine a_iconst (pc := 10) a dX4_takeClasses_10 ?_
  refine a_iast (pc := 11) a (tw hinj w3) (by decide) h.1 dX4_takeClasses_11 ?_
  replace h := h.2
  refine a_nmS (fun s2 hx => ?_)
  replace h := h s2 hx
  clear hx
  refine a_iconst (pc := 12) a dX4_takeClasses_12 ?_
  refine a_istore_n (pc := 13) a (ls1 := [(3, vI 0), (2, vI x1), (0, Value.ref (ad b)), (1, vI p1)]) dX4_takeClasses_13 rfl (by decide) rfl ?_
  refine a_sub (ls1 := [(0, Value.ref (ad b)), (1, vI p1), (2, vI x1), (3, vI 0)]) [2, 3, 1, 0] rfl ?_
  refine g_wl1s (fun x3 => [(0, Value.ref (ad b)), (1, vI p1), (2, vI x1), (3, vI x3)]) h ?_
  clear h
  intro x3 s4 ag14 hag14 h
  refine a_iload_n (pc := 14) a 3 dX4_takeClasses_14 rfl rfl ?_
  refine a_bipush (pc := 15) a dX4_takeClasses_15 (by decide) ?_
  refine a_icmp_ge (pc := 17) a h.1 ⟨by decide, by decide⟩ dX4_takeClasses_17 (tgt := 88) (by decide) (fun hq => ?_) (fun hq => ?_)
  · replace h := h.2.1 hq
    clear hq
    exact e_v (pc := 88) a hr dX4_takeClasses_88 h
  · replace h := h.2.2 hq
    clear hq
    refine a_aload_n (pc := 20) a 0 dX4_takeClasses_20 rfl rfl ?_
    refine a_getR (pc := 21) a 1 1 rfl tb vc4 w2 w4 (by decide) (by decide) 2 (q := (b + 2)) rfl rfl dX4_takeClasses_21 ?_
    refine a_iload_n (pc := 24) a 2 dX4_takeClasses_24 rfl rfl ?_
    refine a_iload_n (pc := 25) a 3 dX4_takeClasses_25 rfl rfl ?_
    refine a_iadd (pc := 26) a dX4_takeClasses_26 ?_
    refine a_iald (pc := 27) a (tw hinj w5) (by decide) h.1 dX4_takeClasses_27 ?_
    replace h := h.2
    refine a_if_le (pc := 28) a h.1 dX4_takeClasses_28 (tgt := 82) (by decide) (fun hq => ?_) (fun hq => ?_)
    · replace h := h.2.1 hq
      clear hq
      refine a_iinc (pc := 82) a (ls1 := [(3, vI (x3 + 1)), (0, Value.ref (ad b)), (1, vI p1), (2, vI x1)]) 3 dX4_takeClasses_82 rfl (by decide) rfl ?_
      refine a_goto (pc := 85) a dX4_takeClasses_85 (tgt := 14) (by decide) ?_
      refine a_sub (ls1 := [(0, Value.ref (ad b)), (1, vI p1), (2, vI x1), (3, vI (x3 + 1))]) [1, 2, 3, 0] rfl ?_
      exact hag14 (x3 + 1) s4 h
    · replace h := h.2.2 hq
      clear hq
      refine a_iload_n (pc := 31) a 2 dX4_takeClasses_31 rfl rfl ?_
      refine a_aload_n (pc := 32) a 0 dX4_takeClasses_32 rfl rfl ?_
      refine a_getR (pc := 33) a 2 2 rfl tb vc4 w2 w1 (by decide) (by decide) 3 (q := (b + 3)) rfl rfl dX4_takeClasses_33 ?_
      refine a_iload_n (pc := 36) a 1 dX4_takeClasses_36 rfl rfl ?_
      refine a_iald (pc := 37) a (tw hinj w3) (by decide) h.1 dX4_takeClasses_37 ?_
      replace h := h.2
      refine a_iadd (pc := 38) a dX4_takeClasses_38 ?_
      refine a_nm (fun x5 hx => ?_)
      replace h := h x5 hx
      clear hx
      refine a_istore (pc := 39) a (ls1 := [(4, vI x5), (0, Value.ref (ad b)), (1, vI p1), (2, vI x1), (3, vI x3)]) dX4_takeClasses_39 (by decide) rfl ?_
      refine a_aload_n (pc := 41) a 1 dX4_takeClasses_41 rfl rfl ?_
      refine a_getR (pc := 42) a 3 3 rfl tb vc4 w2 w6 (by decide) (by decide) 4 (q := (b + 4)) rfl rfl dX4_takeClasses_42 ?_
      refine a_iload (pc := 45) a 0 dX4_takeClasses_45 rfl ?_
      refine a_iload_n (pc := 47) a 4 dX4_takeClasses_47 rfl rfl ?_
      refine a_iast (pc := 48) a (tw hinj w7) (by decide) h.1 dX4_takeClasses_48 ?_
      replace h := h.2
      refine a_nmS (fun s6 hx => ?_)
      replace h := h s6 hx
      clear hx
      refine a_aload_n (pc := 49) a 1 dX4_takeClasses_49 rfl rfl ?_
      refine a_getR (pc := 50) a 4 4 rfl tb vc4 w2 w8 (by decide) (by decide) 5 (q := (b + 5)) rfl rfl dX4_takeClasses_50 ?_
      refine a_iload (pc := 53) a 0 dX4_takeClasses_53 rfl ?_
      refine a_iload_n (pc := 55) a 4 dX4_takeClasses_55 rfl rfl ?_
      refine a_iast (pc := 56) a (tw hinj w9) (by decide) h.1 dX4_takeClasses_56 ?_
      replace h := h.2
      refine a_nmS (fun s7 hx => ?_)
      replace h := h s7 hx
      clear hx
      refine a_aload_n (pc := 57) a 1 dX4_takeClasses_57 rfl rfl ?_
      refine a_getR (pc := 58) a 5 5 rfl tb vc4 w2 w10 (by decide) (by decide) 6 (q := (b + 6)) rfl rfl dX4_takeClasses_58 ?_
      refine a_iload (pc := 61) a 0 dX4_takeClasses_61 rfl ?_
      refine a_aload_n (pc := 63) a 1 dX4_takeClasses_63 rfl rfl ?_
      refine a_getR (pc := 64) a 1 1 rfl tb vc4 w2 w4 (by decide) (by decide) 2 (q := (b + 2)) rfl rfl dX4_takeClasses_64 ?_
      refine a_iload_n (pc := 67) a 3 dX4_takeClasses_67 rfl rfl ?_
      refine a_iload_n (pc := 68) a 4 dX4_takeClasses_68 rfl rfl ?_
      refine a_iadd (pc := 69) a dX4_takeClasses_69 ?_
      refine a_iald (pc := 70) a (tw hinj w5) (by decide) h.1 dX4_takeClasses_70 ?_
      replace h := h.2
      refine a_iast (pc := 71) a (tw hinj w11) (by decide) h.1 dX4_takeClasses_71 ?_
      replace h := h.2
      refine a_nmS (fun s8 hx => ?_)
      replace h := h s8 hx
      clear hx
      refine a_aload_n (pc := 72) a 1 dX4_takeClasses_72 rfl rfl ?_
      refine a_getR (pc := 73) a 2 2 rfl tb vc4 w2 w1 (by decide) (by decide) 3 (q := (b + 3)) rfl rfl dX4_takeClasses_73 ?_
      refine a_iload_n (pc := 76) a 2 dX4_takeClasses_76 rfl rfl ?_
      refine a_dup2 (pc := 77) a rfl rfl dX4_takeClasses_77 ?_
      refine a_iald (pc := 78) a (tw hinj w3) (by decide) h.1 dX4_takeClasses_78 ?_
      replace h := h.2
      refine a_iconst (pc := 79) a dX4_takeClasses_79 ?_
      refine a_iadd (pc := 80) a dX4_takeClasses_80 ?_
      refine a_iast (pc := 81) a (tw hinj w3) (by decide) h.1 dX4_takeClasses_81 ?_
      replace h := h.2
      refine a_nmS (fun s9 hx => ?_)
      replace h := h s9 hx
      clear hx
      refine a_iinc (pc := 82) a (ls1 := [(3, vI (x3 + 1)), (4, vI x5), (0, Value.ref (ad b)), (1, vI p1), (2, vI x1)]) 4 dX4_takeClasses_82 rfl (by decide) rfl ?_
      refine a_goto (pc := 85) a dX4_takeClasses_85 (tgt := 14) (by decide) ?_
      refine a_sub (ls1 := [(0, Value.ref (ad b)), (1, vI p1), (2, vI x1), (3, vI (x3 + 1))]) [2, 3, 4, 0] rfl ?_
      exact hag14 (x3 + 1) s9 h

set_option maxRecDepth 100000 in
set_option maxHeartbeats 4000000 in
theorem c_X4_joinFewest {l : Launch} {D : va_G} {X : XI} {ad : Nat → Nat} (hinj : adI ad) (hl0 : l.stackTraces = false) {b : Nat} {p1 : Int} (tb : tyc b (8, 0)) {σ : St} {K : St → Prop} (h : f_X4_joinFewest b p1 σ K) (sz : Nat) : Met l yX4_joinFewest (WW (.code yX4_joinFewest cX4_joinFewest 6 none)) { frames := 0, cells := 0, slots := 0, locals := 0 } (va_Pc [Value.ref (ad b), vI p1] (WD D X ad σ sz)) (QV D X ad sz K) 0 0 (AA ad sz) := by
  refine a_start (cc := cX4_joinFewest) (maxL := 6) (ret := none) (own := RX4) [Value.ref (ad b), vI p1] (by decide) rfl rfl (Nat.le_of_ble_eq_true rfl) hinj hl0 ?_
  intro p e s m below meth c a hr hsz
  subst hsz
  have hts := a.1.2.2.2.2
  have w1 := hts (Cond.fieldLink RX4 18 "SightLegend$Ranges" "size" "[I") (List.mem_cons_of_mem _ (GL_3 _ (by decide +kernel)))
  have w2 : ∀ w ∈ u_ws RX4 TX4 6, w ∈ WW (.code yX4_joinFewest cX4_joinFewest 6 none) := fun w h => List.mem_cons_of_mem _ (inlX4 w h)
  have w3 : tyc (b + 3) (0, 12) := ty_of (d := 3) (t1 := (0, 12)) (by decide +kernel) rfl tb
  have w4 := hts (Cond.fieldLink RX4 24 "SightLegend$Ranges" "last" "[I") (List.mem_cons_of_mem _ (GL_3 _ (by decide +kernel)))
  have w5 : tyc (b + 5) (0, 72) := ty_of (d := 5) (t1 := (0, 72)) (by decide +kernel) rfl tb
  have w6 := hts (Cond.fieldLink RX4 27 "SightLegend$Ranges" "signs" "[I") (List.mem_cons_of_mem _ (GL_3 _ (by decide +kernel)))
  have w7 : tyc (b + 6) (0, 72) := ty_of (d := 6) (t1 := (0, 72)) (by decide +kernel) rfl tb
  have w8 := hts (Cond.fieldLink RX4 21 "SightLegend$Ranges" "first" "[I") (List.mem_cons_of_mem _ (GL_3 _ (by decide +kernel)))
  have w9 : tyc (b + 4) (0, 72) := ty_of (d := 4) (t1 := (0, 72)) (by decide +kernel) rfl tb
  unfold f_X4_joinFewest at h
  refine a_sub (ls1 := [(0, Value.ref (ad b)), (1, vI p1)]) [0, 1] rfl ?_
  refine a_iload_n (pc := 0) a 1 dX4_joinFewest_0 rfl rfl ?_
  refine a_bipush (pc := 1) a dX4_joinFewest_1 (by decide) ?_
  refine a_imul (pc := 3) a dX4_joinFewest_3 ?_
  refine a_nm (fun x1 hx => ?_)
  replace h := h x1 hx
  clear hx
  refine a_istore_n (pc := 4) a (ls1 := [(2, vI x1), (0, Value.ref (ad b)), (1, vI p1)]) dX4_joinFewest_4 rfl (by decide) rfl ?_
  refine a_iload_n (pc := 5) a 0 dX4_joinFewest_5 rfl rfl ?_
  refine a_aload_n (pc := 6) a 1 dX4_joinFewest_6 rfl rfl ?_
  refine a_getR (pc := 7) a 2 2 rfl tb vc4 w2 w1 (by decide) (by decide) 3 (q := (b + 3)) rfl rfl dX4_joinFewest_7 ?_
  refine a_iload_n (pc := 10) a 2 dX4_joinFewest_10 rfl rfl ?_
  refine a_iald (pc := 11) a (tw hinj w3) (by decide) h.1 dX4_joinFewest_11 ?_
  replace h := h.2
  refine a_iadd (pc := 12) a dX4_joinFewest_12 ?_
  refine a_nm (fun x2 hx => ?_)
  replace h := h x2 hx
  clear hx
  refine a_istore_n (pc := 13) a (ls1 := [(3, vI x2), (2, vI x1), (0, Value.ref (ad b)), (1, vI p1)]) dX4_joinFewest_13 rfl (by decide) rfl ?_
  refine a_iload_n (pc := 14) a 1 dX4_joinFewest_14 rfl rfl ?_
  refine a_istore (pc := 15) a (ls1 := [(4, vI x1), (3, vI x2), (2, vI x1), (0, Value.ref (ad b)), (1, vI p1)]) dX4_joinFewest_15 (by decide) rfl ?_
  refine a_iload_n (pc := 17) a 2 dX4_joinFewest_17 rfl rfl ?_
  refine a_iconst (pc := 18) a dX4_joinFewest_18 ?_
  refine a_iadd (pc := 19) a dX4_joinFewest_19 ?_
  refine a_nm (fun x3 hx => ?_)
  replace h := h x3 hx
  clear hx
  refine a_istore (pc := 20) a (ls1 := [(5, vI x3), (4, vI x1), (3, vI x2), (2, vI x1), (0, Value.ref (ad b)), (1, vI p1)]) dX4_joinFewest_20 (by decide) rfl ?_
  refine a_sub (ls1 := [(0, Value.ref (ad b)), (1, vI p1), (3, vI x2), (4, vI x1), (5, vI x3)]) [4, 5, 2, 1, 0] rfl ?_
  refine g_wl2 (fun x4 x5 => [(0, Value.ref (ad b)), (1, vI p1), (3, vI x2), (4, vI x4), (5, vI x5)]) h ?_
  clear h
  intro x4 x5 ag22 hag22 h
  refine a_iload (pc := 22) a 4 dX4_joinFewest_22 rfl ?_
  refine a_iconst (pc := 24) a dX4_joinFewest_24 ?_
  refine a_iadd (pc := 25) a dX4_joinFewest_25 ?_
  refine a_iload_n (pc := 26) a 2 dX4_joinFewest_26 rfl rfl ?_
  refine a_icmp_ge (pc := 27) a h.1 h.2.1 dX4_joinFewest_27 (tgt := 77) (by decide) (fun hq => ?_) (fun hq => ?_)
  · replace h := h.2.2.1 hq
    clear hq
    refine a_aload_n (pc := 77) a 0 dX4_joinFewest_77 rfl rfl ?_
    refine a_getR (pc := 78) a 4 4 rfl tb vc4 w2 w4 (by decide) (by decide) 5 (q := (b + 5)) rfl rfl dX4_joinFewest_78 ?_
    refine a_iload (pc := 81) a 3 dX4_joinFewest_81 rfl ?_
    refine a_aload_n (pc := 83) a 0 dX4_joinFewest_83 rfl rfl ?_
    refine a_getR (pc := 84) a 4 4 rfl tb vc4 w2 w4 (by decide) (by decide) 5 (q := (b + 5)) rfl rfl dX4_joinFewest_84 ?_
    refine a_iload (pc := 87) a 3 dX4_joinFewest_87 rfl ?_
    refine a_iconst (pc := 89) a dX4_joinFewest_89 ?_
    refine a_iadd (pc := 90) a dX4_joinFewest_90 ?_
    refine a_iald (pc := 91) a (tw hinj w5) (by decide) h.1 dX4_joinFewest_91 ?_
    replace h := h.2
    refine a_iast (pc := 92) a (tw hinj w5) (by decide) h.1 dX4_joinFewest_92 ?_
    replace h := h.2
    refine a_nmS (fun s6 hx => ?_)
    replace h := h s6 hx
    clear hx
    refine a_aload_n (pc := 93) a 0 dX4_joinFewest_93 rfl rfl ?_
    refine a_getR (pc := 94) a 5 5 rfl tb vc4 w2 w6 (by decide) (by decide) 6 (q := (b + 6)) rfl rfl dX4_joinFewest_94 ?_
    refine a_iload (pc := 97) a 3 dX4_joinFewest_97 rfl ?_
    refine a_dup2 (pc := 99) a rfl rfl dX4_joinFewest_99 ?_
    refine a_iald (pc := 100) a (tw hinj w7) (by decide) h.1 dX4_joinFewest_100 ?_
    replace h := h.2
    refine a_aload_n (pc := 101) a 0 dX4_joinFewest_101 rfl rfl ?_
    refine a_getR (pc := 102) a 5 5 rfl tb vc4 w2 w6 (by decide) (by decide) 6 (q := (b + 6)) rfl rfl dX4_joinFewest_102 ?_
    refine a_iload (pc := 105) a 3 dX4_joinFewest_105 rfl ?_
    refine a_iconst (pc := 107) a dX4_joinFewest_107 ?_
    refine a_iadd (pc := 108) a dX4_joinFewest_108 ?_
    refine a_iald (pc := 109) a (tw hinj w7) (by decide) h.1 dX4_joinFewest_109 ?_
    replace h := h.2
    refine a_iadd (pc := 110) a dX4_joinFewest_110 ?_
    refine a_iast (pc := 111) a (tw hinj w7) (by decide) h.1 dX4_joinFewest_111 ?_
    replace h := h.2
    refine a_nmS (fun s7 hx => ?_)
    replace h := h s7 hx
    clear hx
    refine a_iload (pc := 112) a 3 dX4_joinFewest_112 rfl ?_
    refine a_iconst (pc := 114) a dX4_joinFewest_114 ?_
    refine a_iadd (pc := 115) a dX4_joinFewest_115 ?_
    refine a_nm (fun x8 hx => ?_)
    replace h := h x8 hx
    clear hx
    refine a_istore (pc := 116) a (ls1 := [(5, vI x8), (0, Value.ref (ad b)), (1, vI p1), (3, vI x2), (4, vI x4)]) dX4_joinFewest_116 (by decide) rfl ?_
    refine a_sub (ls1 := [(0, Value.ref (ad b)), (1, vI p1), (3, vI x2), (5, vI x8)]) [1, 2, 3, 0] rfl ?_
    refine g_wl1s (fun x9 => [(0, Value.ref (ad b)), (1, vI p1), (3, vI x2), (5, vI x9)]) h ?_
    clear h
    intro x9 s10 ag118 hag118 h
    refine a_iload (pc := 118) a 3 dX4_joinFewest_118 rfl ?_
    refine a_iconst (pc := 120) a dX4_joinFewest_120 ?_
    refine a_iadd (pc := 121) a dX4_joinFewest_121 ?_
    refine a_iload_n (pc := 122) a 2 dX4_joinFewest_122 rfl rfl ?_
    refine a_icmp_ge (pc := 123) a h.1 h.2.1 dX4_joinFewest_123 (tgt := 180) (by decide) (fun hq => ?_) (fun hq => ?_)
    · replace h := h.2.2.1 hq
      clear hq
      refine a_aload_n (pc := 180) a 0 dX4_joinFewest_180 rfl rfl ?_
      refine a_getR (pc := 181) a 2 2 rfl tb vc4 w2 w1 (by decide) (by decide) 3 (q := (b + 3)) rfl rfl dX4_joinFewest_181 ?_
      refine a_iload_n (pc := 184) a 1 dX4_joinFewest_184 rfl rfl ?_
      refine a_dup2 (pc := 185) a rfl rfl dX4_joinFewest_185 ?_
      refine a_iald (pc := 186) a (tw hinj w3) (by decide) h.1 dX4_joinFewest_186 ?_
      replace h := h.2
      refine a_iconst (pc := 187) a dX4_joinFewest_187 ?_
      refine a_isub (pc := 188) a dX4_joinFewest_188 ?_
      refine a_iast (pc := 189) a (tw hinj w3) (by decide) h.1 dX4_joinFewest_189 ?_
      replace h := h.2
      refine a_nmS (fun s11 hx => ?_)
      replace h := h s11 hx
      clear hx
      exact e_v (pc := 190) a hr dX4_joinFewest_190 h
    · replace h := h.2.2.2 hq
      clear hq
      refine a_aload_n (pc := 126) a 0 dX4_joinFewest_126 rfl rfl ?_
      refine a_getR (pc := 127) a 3 3 rfl tb vc4 w2 w8 (by decide) (by decide) 4 (q := (b + 4)) rfl rfl dX4_joinFewest_127 ?_
      refine a_iload (pc := 130) a 3 dX4_joinFewest_130 rfl ?_
      refine a_aload_n (pc := 132) a 0 dX4_joinFewest_132 rfl rfl ?_
      refine a_getR (pc := 133) a 3 3 rfl tb vc4 w2 w8 (by decide) (by decide) 4 (q := (b + 4)) rfl rfl dX4_joinFewest_133 ?_
      refine a_iload (pc := 136) a 3 dX4_joinFewest_136 rfl ?_
      refine a_iconst (pc := 138) a dX4_joinFewest_138 ?_
      refine a_iadd (pc := 139) a dX4_joinFewest_139 ?_
      refine a_iald (pc := 140) a (tw hinj w9) (by decide) h.1 dX4_joinFewest_140 ?_
      replace h := h.2
      refine a_iast (pc := 141) a (tw hinj w9) (by decide) h.1 dX4_joinFewest_141 ?_
      replace h := h.2
      refine a_nmS (fun s12 hx => ?_)
      replace h := h s12 hx
      clear hx
      refine a_aload_n (pc := 142) a 0 dX4_joinFewest_142 rfl rfl ?_
      refine a_getR (pc := 143) a 4 4 rfl tb vc4 w2 w4 (by decide) (by decide) 5 (q := (b + 5)) rfl rfl dX4_joinFewest_143 ?_
      refine a_iload (pc := 146) a 3 dX4_joinFewest_146 rfl ?_
      refine a_aload_n (pc := 148) a 0 dX4_joinFewest_148 rfl rfl ?_
      refine a_getR (pc := 149) a 4 4 rfl tb vc4 w2 w4 (by decide) (by decide) 5 (q := (b + 5)) rfl rfl dX4_joinFewest_149 ?_
      refine a_iload (pc := 152) a 3 dX4_joinFewest_152 rfl ?_
      refine a_iconst (pc := 154) a dX4_joinFewest_154 ?_
      refine a_iadd (pc := 155) a dX4_joinFewest_155 ?_
      refine a_iald (pc := 156) a (tw hinj w5) (by decide) h.1 dX4_joinFewest_156 ?_
      replace h := h.2
      refine a_iast (pc := 157) a (tw hinj w5) (by decide) h.1 dX4_joinFewest_157 ?_
      replace h := h.2
      refine a_nmS (fun s13 hx => ?_)
      replace h := h s13 hx
      clear hx
      refine a_aload_n (pc := 158) a 0 dX4_joinFewest_158 rfl rfl ?_
      refine a_getR (pc := 159) a 5 5 rfl tb vc4 w2 w6 (by decide) (by decide) 6 (q := (b + 6)) rfl rfl dX4_joinFewest_159 ?_
      refine a_iload (pc := 162) a 3 dX4_joinFewest_162 rfl ?_
      refine a_aload_n (pc := 164) a 0 dX4_joinFewest_164 rfl rfl ?_
      refine a_getR (pc := 165) a 5 5 rfl tb vc4 w2 w6 (by decide) (by decide) 6 (q := (b + 6)) rfl rfl dX4_joinFewest_165 ?_
      refine a_iload (pc := 168) a 3 dX4_joinFewest_168 rfl ?_
      refine a_iconst (pc := 170) a dX4_joinFewest_170 ?_
      refine a_iadd (pc := 171) a dX4_joinFewest_171 ?_
      refine a_iald (pc := 172) a (tw hinj w7) (by decide) h.1 dX4_joinFewest_172 ?_
      replace h := h.2
      refine a_iast (pc := 173) a (tw hinj w7) (by decide) h.1 dX4_joinFewest_173 ?_
      replace h := h.2
      refine a_nmS (fun s14 hx => ?_)
      replace h := h s14 hx
      clear hx
      refine a_iinc (pc := 174) a (ls1 := [(5, vI (x9 + 1)), (0, Value.ref (ad b)), (1, vI p1), (3, vI x2)]) 3 dX4_joinFewest_174 rfl (by decide) rfl ?_
      refine a_goto (pc := 177) a dX4_joinFewest_177 (tgt := 118) (by decide) ?_
      refine a_sub (ls1 := [(0, Value.ref (ad b)), (1, vI p1), (3, vI x2), (5, vI (x9 + 1))]) [1, 2, 3, 0] rfl ?_
      exact hag118 (x9 + 1) s14 h
  · replace h := h.2.2.2 hq
    clear hq
    refine a_aload_n (pc := 30) a 0 dX4_joinFewest_30 rfl rfl ?_
    refine a_getR (pc := 31) a 5 5 rfl tb vc4 w2 w6 (by decide) (by decide) 6 (q := (b + 6)) rfl rfl dX4_joinFewest_31 ?_
    refine a_iload (pc := 34) a 4 dX4_joinFewest_34 rfl ?_
    refine a_iald (pc := 36) a (tw hinj w7) (by decide) h.1 dX4_joinFewest_36 ?_
    replace h := h.2
    refine a_aload_n (pc := 37) a 0 dX4_joinFewest_37 rfl rfl ?_
    refine a_getR (pc := 38) a 5 5 rfl tb vc4 w2 w6 (by decide) (by decide) 6 (q := (b + 6)) rfl rfl dX4_joinFewest_38 ?_
    refine a_iload (pc := 41) a 4 dX4_joinFewest_41 rfl ?_
    refine a_iconst (pc := 43) a dX4_joinFewest_43 ?_
    refine a_iadd (pc := 44) a dX4_joinFewest_44 ?_
    refine a_iald (pc := 45) a (tw hinj w7) (by decide) h.1 dX4_joinFewest_45 ?_
    replace h := h.2
    refine a_iadd (pc := 46) a dX4_joinFewest_46 ?_
    refine a_aload_n (pc := 47) a 0 dX4_joinFewest_47 rfl rfl ?_
    refine a_getR (pc := 48) a 5 5 rfl tb vc4 w2 w6 (by decide) (by decide) 6 (q := (b + 6)) rfl rfl dX4_joinFewest_48 ?_
    refine a_iload (pc := 51) a 3 dX4_joinFewest_51 rfl ?_
    refine a_iald (pc := 53) a (tw hinj w7) (by decide) h.1 dX4_joinFewest_53 ?_
    replace h := h.2
    refine a_aload_n (pc := 54) a 0 dX4_joinFewest_54 rfl rfl ?_
    refine a_getR (pc := 55) a 5 5 rfl tb vc4 w2 w6 (by decide) (by decide) 6 (q := (b + 6)) rfl rfl dX4_joinFewest_55 ?_
    refine a_iload (pc := 58) a 3 dX4_joinFewest_58 rfl ?_
    refine a_iconst (pc := 60) a dX4_joinFewest_60 ?_
    refine a_iadd (pc := 61) a dX4_joinFewest_61 ?_
    refine a_iald (pc := 62) a (tw hinj w7) (by decide) h.1 dX4_joinFewest_62 ?_
    replace h := h.2
    refine a_iadd (pc := 63) a dX4_joinFewest_63 ?_
    refine a_icmp_ge (pc := 64) a h.1 h.2.1 dX4_joinFewest_64 (tgt := 71) (by decide) (fun hq => ?_) (fun hq => ?_)
    · replace h := h.2.2.1 hq
      clear hq
      refine a_iinc (pc := 71) a (ls1 := [(5, vI (x5 + 1)), (0, Value.ref (ad b)), (1, vI p1), (3, vI x2), (4, vI x4)]) 4 dX4_joinFewest_71 rfl (by decide) rfl ?_
      refine a_goto (pc := 74) a dX4_joinFewest_74 (tgt := 22) (by decide) ?_
      refine a_sub (ls1 := [(0, Value.ref (ad b)), (1, vI p1), (3, vI x2), (4, vI x4), (5, vI (x5 + 1))]) [1, 2, 3, 4, 0] rfl ?_
      exact hag22 x4 (x5 + 1) h
    · replace h := h.2.2.2 hq
      clear hq
      refine a_iload (pc := 67) a 4 dX4_joinFewest_67 rfl ?_
      refine a_istore (pc := 69) a (ls1 := [(4, vI x5), (0, Value.ref (ad b)), (1, vI p1), (3, vI x2), (5, vI x5)]) dX4_joinFewest_69 (by decide) rfl ?_
      refine a_iinc (pc := 71) a (ls1 := [(5, vI (x5 + 1)), (4, vI x5), (0, Value.ref (ad b)), (1, vI p1), (3, vI x2)]) 4 dX4_joinFewest_71 rfl (by decide) rfl ?_
      refine a_goto (pc := 74) a dX4_joinFewest_74 (tgt := 22) (by decide) ?_
      refine a_sub (ls1 := [(0, Value.ref (ad b)), (1, vI p1), (3, vI x2), (4, vI x5), (5, vI (x5 + 1))]) [2, 3, 4, 1, 0] rfl ?_
      exact hag22 x5 (x5 + 1) h

set_option maxRecDepth 100000 in
set_option maxHeartbeats 4000000 in
theorem c_X4_build {l : Launch} {D : va_G} {X : XI} {ad : Nat → Nat} (hinj : adI ad) (hl0 : l.stackTraces = false) {b : Nat} {q1 : Nat} {q2 : Nat} (tb : tyc b (8, 0)) (tq1 : tyc q1 (7, 0)) (tq2 : tyc q2 (1, 40)) {σ : St} {K : St → Prop} (h : f_X4_build b q1 q2 σ K) (sz : Nat) : Met l yX4_build (WW (.code yX4_build cX4_build 6 none)) { frames := 2, cells := 0, slots := 0, locals := 48 } (va_Pc [Value.ref (ad b), Value.ref (ad q1), Value.ref (ad q2)] (WD D X ad σ sz)) (QV D X ad sz K) 0 0 (AA ad sz) := by
  refine a_start (cc := cX4_build) (maxL := 6) (ret := none) (own := RX4) [Value.ref (ad b), Value.ref (ad q1), Value.ref (ad q2)] (by decide) rfl rfl (Nat.le_of_ble_eq_true rfl) hinj hl0 ?_
  intro p e s m below meth c a hr hsz
  subst hsz
  have hts := a.1.2.2.2.2
  have w1 := hts (Cond.fieldLink RX4 38 "SightLegend$MapState" "settings" "[I") (List.mem_cons_of_mem _ (GL_9 _ (by decide +kernel)))
  have w2 : ∀ w ∈ u_ws RX3 TX3 13, w ∈ WW (.code yX4_build cX4_build 6 none) := fun w h => List.mem_cons_of_mem _ (inlX3 w h)
  have w3 : tyc (q1 + 12) (0, 4) := ty_of (d := 12) (t1 := (0, 4)) (by decide +kernel) rfl tq1
  have w4 := hts (Cond.methodLink RX4 43 Lib.Math.max.name) (List.mem_cons_of_mem _ (GL_9 _ (by decide +kernel)))
  have w5 := hts (Cond.static Lib.Math.max.name) (List.mem_cons_of_mem _ (GL_9 _ (by decide +kernel)))
  have w6 := hts (Cond.initialized "java/lang/Math") (List.mem_cons_of_mem _ (GL_9 _ (by decide +kernel)))
  have w7 := hts (Cond.code Lib.Math.max.name Lib.Math.max.code 2 (some .int)) (List.mem_cons_of_mem _ (GL_9 _ (by decide +kernel)))
  have w8 := hts (Cond.fieldLink RX4 18 "SightLegend$Ranges" "size" "[I") (List.mem_cons_of_mem _ (GL_3 _ (by decide +kernel)))
  have w9 : ∀ w ∈ u_ws RX4 TX4 6, w ∈ WW (.code yX4_build cX4_build 6 none) := fun w h => List.mem_cons_of_mem _ (inlX4 w h)
  have w10 : tyc (b + 3) (0, 12) := ty_of (d := 3) (t1 := (0, 12)) (by decide +kernel) rfl tb
  unfold f_X4_build at h
  refine a_sub (ls1 := [(0, Value.ref (ad b)), (1, Value.ref (ad q1)), (2, Value.ref (ad q2))]) [0, 1, 2] rfl ?_
  refine a_aload_n (pc := 0) a 0 dX4_build_0 rfl rfl ?_
  refine a_aload_n (pc := 1) a 1 dX4_build_1 rfl rfl ?_
  refine a_aload_n (pc := 2) a 2 dX4_build_2 rfl rfl ?_
  refine a_cvv (pc := 3) a (As := [Value.ref (ad q1), Value.ref (ad q2)]) (rest := []) tb vc4 (fun sz => c_X4_countSigns hinj hl0 tb tq1 tq2 h sz) (cwV 2 hts (gl_V (GL_9 _ (by decide +kernel)) (GL_9 _ (by decide +kernel)) (GL_9 _ (by decide +kernel)) (GL_3 _ (by decide +kernel)) (GL_9 _ (by decide +kernel))) rfl rfl rfl (by decide +kernel) ⟨Nat.le_of_ble_eq_true rfl, Nat.le_of_ble_eq_true rfl⟩) rfl rfl (Nat.le_of_ble_eq_true rfl) ⟨Nat.le_of_ble_eq_true rfl, Nat.le_of_ble_eq_true rfl⟩ dX4_build_3 ?_
  clear h
  intro s1 h
  refine a_iconst (pc := 6) a dX4_build_6 ?_
  refine a_istore_n (pc := 7) a (ls1 := [(3, vI 0), (0, Value.ref (ad b)), (1, Value.ref (ad q1)), (2, Value.ref (ad q2))]) dX4_build_7 rfl (by decide) rfl ?_
  refine a_sub (ls1 := [(0, Value.ref (ad b)), (1, Value.ref (ad q1)), (3, vI 0)]) [1, 2, 0] rfl ?_
  refine g_wl1s (fun x2 => [(0, Value.ref (ad b)), (1, Value.ref (ad q1)), (3, vI x2)]) h ?_
  clear h
  intro x2 s3 ag8 hag8 h
  refine a_iload_n (pc := 8) a 2 dX4_build_8 rfl rfl ?_
  refine a_bipush (pc := 9) a dX4_build_9 (by decide) ?_
  refine a_icmp_ge (pc := 11) a h.1 ⟨by decide, by decide⟩ dX4_build_11 (tgt := 69) (by decide) (fun hq => ?_) (fun hq => ?_)
  · replace h := h.2.1 hq
    clear hq
    exact e_v (pc := 69) a hr dX4_build_69 h
  · replace h := h.2.2 hq
    clear hq
    refine a_aload_n (pc := 14) a 0 dX4_build_14 rfl rfl ?_
    refine a_iload_n (pc := 15) a 2 dX4_build_15 rfl rfl ?_
    refine a_cvv (pc := 16) a (As := [vI x2]) (rest := []) tb vc4 (fun sz => c_X4_takeClasses hinj hl0 tb h sz) (cwV 1 hts (gl_V (GL_10 _ (by decide +kernel)) (GL_10 _ (by decide +kernel)) (GL_10 _ (by decide +kernel)) (GL_3 _ (by decide +kernel)) (GL_10 _ (by decide +kernel))) rfl rfl rfl (by decide +kernel) ⟨Nat.le_of_ble_eq_true rfl, Nat.le_of_ble_eq_true rfl⟩) rfl rfl (Nat.le_of_ble_eq_true rfl) ⟨Nat.le_of_ble_eq_true rfl, Nat.le_of_ble_eq_true rfl⟩ dX4_build_16 ?_
    clear h
    intro s4 h
    refine a_aload_n (pc := 19) a 1 dX4_build_19 rfl rfl ?_
    refine a_getR (pc := 20) a 12 12 rfl tq1 vc3 w2 w1 (by decide) (by decide) 12 (q := (q1 + 12)) rfl rfl dX4_build_20 ?_
    refine a_iconst (pc := 23) a dX4_build_23 ?_
    refine a_iald (pc := 24) a (tw hinj w3) (by decide) (by decide) dX4_build_24 ?_
    refine a_iconst (pc := 25) a dX4_build_25 ?_
    refine a_max (pc := 26) a h.1 ⟨by decide, by decide⟩ w4 w5 w6 w7 (Nat.le_of_ble_eq_true rfl) (Nat.le_of_ble_eq_true rfl) (Nat.le_of_ble_eq_true rfl) (Nat.le_of_ble_eq_true rfl) dX4_build_26 ?_
    replace h := h.2
    refine a_nm (fun x5 hx => ?_)
    replace h := h x5 hx
    clear hx
    refine a_istore (pc := 29) a (ls1 := [(4, vI x5), (0, Value.ref (ad b)), (1, Value.ref (ad q1)), (3, vI x2)]) dX4_build_29 (by decide) rfl ?_
    refine a_iconst (pc := 31) a dX4_build_31 ?_
    refine a_istore (pc := 32) a (ls1 := [(5, vI 0), (4, vI x5), (0, Value.ref (ad b)), (1, Value.ref (ad q1)), (3, vI x2)]) dX4_build_32 (by decide) rfl ?_
    refine a_sub (ls1 := [(0, Value.ref (ad b)), (1, Value.ref (ad q1)), (3, vI x2), (4, vI x5), (5, vI 0)]) [2, 3, 4, 1, 0] rfl ?_
    refine g_wl1s (fun x6 => [(0, Value.ref (ad b)), (1, Value.ref (ad q1)), (3, vI x2), (4, vI x5), (5, vI x6)]) h ?_
    clear h
    intro x6 s7 ag34 hag34 h
    refine a_iload (pc := 34) a 4 dX4_build_34 rfl ?_
    refine a_bipush (pc := 36) a dX4_build_36 (by decide) ?_
    refine a_icmp_ge (pc := 38) a h.1 ⟨by decide, by decide⟩ dX4_build_38 (tgt := 63) (by decide) (fun hq => ?_) (fun hq => ?_)
    · replace h := h.2.1 hq
      clear hq
      refine a_iinc (pc := 63) a (ls1 := [(3, vI (x2 + 1)), (0, Value.ref (ad b)), (1, Value.ref (ad q1)), (4, vI x5), (5, vI x6)]) 2 dX4_build_63 rfl (by decide) rfl ?_
      refine a_goto (pc := 66) a dX4_build_66 (tgt := 8) (by decide) ?_
      refine a_sub (ls1 := [(0, Value.ref (ad b)), (1, Value.ref (ad q1)), (3, vI (x2 + 1))]) [1, 2, 0] rfl ?_
      exact hag8 (x2 + 1) s7 h
    · replace h := h.2.2 hq
      clear hq
      refine a_aload_n (pc := 41) a 0 dX4_build_41 rfl rfl ?_
      refine a_getR (pc := 42) a 2 2 rfl tb vc4 w9 w8 (by decide) (by decide) 3 (q := (b + 3)) rfl rfl dX4_build_42 ?_
      refine a_iload_n (pc := 45) a 2 dX4_build_45 rfl rfl ?_
      refine a_iald (pc := 46) a (tw hinj w10) (by decide) h.1 dX4_build_46 ?_
      replace h := h.2
      refine a_iload (pc := 47) a 3 dX4_build_47 rfl ?_
      refine a_icmp_le (pc := 49) a h.1 h.2.1 dX4_build_49 (tgt := 63) (by decide) (fun hq => ?_) (fun hq => ?_)
      · replace h := h.2.2.1 hq
        clear hq
        refine a_iinc (pc := 63) a (ls1 := [(3, vI (x2 + 1)), (0, Value.ref (ad b)), (1, Value.ref (ad q1)), (4, vI x5), (5, vI x6)]) 2 dX4_build_63 rfl (by decide) rfl ?_
        refine a_goto (pc := 66) a dX4_build_66 (tgt := 8) (by decide) ?_
        refine a_sub (ls1 := [(0, Value.ref (ad b)), (1, Value.ref (ad q1)), (3, vI (x2 + 1))]) [1, 2, 0] rfl ?_
        exact hag8 (x2 + 1) s7 h
      · replace h := h.2.2.2 hq
        clear hq
        refine a_aload_n (pc := 52) a 0 dX4_build_52 rfl rfl ?_
        refine a_iload_n (pc := 53) a 2 dX4_build_53 rfl rfl ?_
        refine a_cvv (pc := 54) a (As := [vI x2]) (rest := []) tb vc4 (fun sz => c_X4_joinFewest hinj hl0 tb h sz) (cwV 1 hts (gl_V (GL_10 _ (by decide +kernel)) (GL_10 _ (by decide +kernel)) (GL_10 _ (by decide +kernel)) (GL_3 _ (by decide +kernel)) (GL_10 _ (by decide +kernel))) rfl rfl rfl (by decide +kernel) ⟨Nat.le_of_ble_eq_true rfl, Nat.le_of_ble_eq_true rfl⟩) rfl rfl (Nat.le_of_ble_eq_true rfl) ⟨Nat.le_of_ble_eq_true rfl, Nat.le_of_ble_eq_true rfl⟩ dX4_build_54 ?_
        clear h
        intro s8 h
        refine a_iinc (pc := 57) a (ls1 := [(5, vI (x6 + 1)), (0, Value.ref (ad b)), (1, Value.ref (ad q1)), (3, vI x2), (4, vI x5)]) 4 dX4_build_57 rfl (by decide) rfl ?_
        refine a_goto (pc := 60) a dX4_build_60 (tgt := 34) (by decide) ?_
        refine a_sub (ls1 := [(0, Value.ref (ad b)), (1, Value.ref (ad q1)), (3, vI x2), (4, vI x5), (5, vI (x6 + 1))]) [1, 2, 3, 4, 0] rfl ?_
        exact hag34 (x6 + 1) s8 h

set_option maxRecDepth 100000 in
set_option maxHeartbeats 4000000 in
theorem c_X2_orderKinds {l : Launch} {D : va_G} {X : XI} {ad : Nat → Nat} (hinj : adI ad) (hl0 : l.stackTraces = false) {b : Nat} {q1 : Nat} {q2 : Nat} (tb : tyc b (6, 0)) (tq1 : tyc q1 (7, 0)) (tq2 : tyc q2 (8, 0)) {σ : St} {K : St → Prop} (h : f_X2_orderKinds b q1 q2 σ K) (sz : Nat) : Met l yX2_orderKinds (WW (.code yX2_orderKinds cX2_orderKinds 5 none)) { frames := 0, cells := 0, slots := 0, locals := 0 } (va_Pc [Value.ref (ad b), Value.ref (ad q1), Value.ref (ad q2)] (WD D X ad σ sz)) (QV D X ad sz K) 0 0 (AA ad sz) := by
  refine a_start (cc := cX2_orderKinds) (maxL := 5) (ret := none) (own := RX2) [Value.ref (ad b), Value.ref (ad q1), Value.ref (ad q2)] (by decide) rfl rfl (Nat.le_of_ble_eq_true rfl) hinj hl0 ?_
  intro p e s m below meth c a hr hsz
  subst hsz
  have hts := a.1.2.2.2.2
  have w1 := hts (Cond.fieldLink RX2 51 "SightLegend$Lines" "orderSize" "I") (List.mem_cons_of_mem _ (GL_10 _ (by decide +kernel)))
  have w2 : ∀ w ∈ u_ws RX2 TX2 14, w ∈ WW (.code yX2_orderKinds cX2_orderKinds 5 none) := fun w h => List.mem_cons_of_mem _ (inlX2 w h)
  have w3 := hts (Cond.fieldLink RX2 65 "SightLegend$Ranges" "size" "[I") (List.mem_cons_of_mem _ (GL_10 _ (by decide +kernel)))
  have w4 : ∀ w ∈ u_ws RX4 TX4 6, w ∈ WW (.code yX2_orderKinds cX2_orderKinds 5 none) := fun w h => List.mem_cons_of_mem _ (inlX4 w h)
  have w5 : tyc (q2 + 3) (0, 12) := ty_of (d := 3) (t1 := (0, 12)) (by decide +kernel) rfl tq2
  have w6 := hts (Cond.fieldLink RX2 69 "SightLegend$MapState" "rank" "[I") (List.mem_cons_of_mem _ (GL_10 _ (by decide +kernel)))
  have w7 : ∀ w ∈ u_ws RX3 TX3 13, w ∈ WW (.code yX2_orderKinds cX2_orderKinds 5 none) := fun w h => List.mem_cons_of_mem _ (inlX3 w h)
  have w8 : tyc (q1 + 6) (0, 12) := ty_of (d := 6) (t1 := (0, 12)) (by decide +kernel) rfl tq1
  have w9 := hts (Cond.fieldLink RX2 36 "SightLegend$Lines" "order" "[I") (List.mem_cons_of_mem _ (GL_4 _ (by decide +kernel)))
  have w10 : tyc (b + 9) (0, 12) := ty_of (d := 9) (t1 := (0, 12)) (by decide +kernel) rfl tb
  unfold f_X2_orderKinds at h
  refine a_sub (ls1 := [(0, Value.ref (ad b)), (1, Value.ref (ad q1)), (2, Value.ref (ad q2))]) [0, 1, 2] rfl ?_
  refine a_aload_n (pc := 0) a 0 dX2_orderKinds_0 rfl rfl ?_
  refine a_iconst (pc := 1) a dX2_orderKinds_1 ?_
  refine a_putI (pc := 2) a 12 12 rfl tb vc2 w2 w1 (by decide) (by decide) tyX2 tyX2_ok nmX2 rfl rfl (by decide +kernel) dX2_orderKinds_2 ?_
  refine a_nmS (fun s1 hx => ?_)
  replace h := h s1 hx
  clear hx
  refine a_iconst (pc := 5) a dX2_orderKinds_5 ?_
  refine a_istore_n (pc := 6) a (ls1 := [(3, vI 0), (0, Value.ref (ad b)), (1, Value.ref (ad q1)), (2, Value.ref (ad q2))]) dX2_orderKinds_6 rfl (by decide) rfl ?_
  refine a_sub (ls1 := [(0, Value.ref (ad b)), (1, Value.ref (ad q1)), (2, Value.ref (ad q2)), (3, vI 0)]) [1, 2, 3, 0] rfl ?_
  refine g_wl1s (fun x2 => [(0, Value.ref (ad b)), (1, Value.ref (ad q1)), (2, Value.ref (ad q2)), (3, vI x2)]) h ?_
  clear h
  intro x2 s3 ag7 hag7 h
  refine a_iload_n (pc := 7) a 3 dX2_orderKinds_7 rfl rfl ?_
  refine a_bipush (pc := 8) a dX2_orderKinds_8 (by decide) ?_
  refine a_icmp_ge (pc := 10) a h.1 ⟨by decide, by decide⟩ dX2_orderKinds_10 (tgt := 102) (by decide) (fun hq => ?_) (fun hq => ?_)
  · replace h := h.2.1 hq
    clear hq
    exact e_v (pc := 102) a hr dX2_orderKinds_102 h
  · replace h := h.2.2 hq
    clear hq
    refine a_aload_n (pc := 13) a 2 dX2_orderKinds_13 rfl rfl ?_
    refine a_getR (pc := 14) a 2 2 rfl tq2 vc4 w4 w3 (by decide) (by decide) 3 (q := (q2 + 3)) rfl rfl dX2_orderKinds_14 ?_
    refine a_iload_n (pc := 17) a 3 dX2_orderKinds_17 rfl rfl ?_
    refine a_iald (pc := 18) a (tw hinj w5) (by decide) h.1 dX2_orderKinds_18 ?_
    replace h := h.2
    refine a_if_le (pc := 19) a h.1 dX2_orderKinds_19 (tgt := 96) (by decide) (fun hq => ?_) (fun hq => ?_)
    · replace h := h.2.1 hq
      clear hq
      refine a_iinc (pc := 96) a (ls1 := [(3, vI (x2 + 1)), (0, Value.ref (ad b)), (1, Value.ref (ad q1)), (2, Value.ref (ad q2))]) 3 dX2_orderKinds_96 rfl (by decide) rfl ?_
      refine a_goto (pc := 99) a dX2_orderKinds_99 (tgt := 7) (by decide) ?_
      refine a_sub (ls1 := [(0, Value.ref (ad b)), (1, Value.ref (ad q1)), (2, Value.ref (ad q2)), (3, vI (x2 + 1))]) [1, 2, 3, 0] rfl ?_
      exact hag7 (x2 + 1) s3 h
    · replace h := h.2.2 hq
      clear hq
      refine a_aload_n (pc := 22) a 0 dX2_orderKinds_22 rfl rfl ?_
      refine a_getI (pc := 23) a 12 12 rfl tb vc2 w2 w1 (by decide) (by decide) rfl dX2_orderKinds_23 ?_
      refine a_nm (fun x4 hx => ?_)
      replace h := h x4 hx
      clear hx
      refine a_istore (pc := 26) a (ls1 := [(4, vI x4), (0, Value.ref (ad b)), (1, Value.ref (ad q1)), (2, Value.ref (ad q2)), (3, vI x2)]) dX2_orderKinds_26 (by decide) rfl ?_
      refine a_sub (ls1 := [(0, Value.ref (ad b)), (1, Value.ref (ad q1)), (2, Value.ref (ad q2)), (3, vI x2), (4, vI x4)]) [1, 2, 3, 4, 0] rfl ?_
      refine g_wl1s (fun x5 => [(0, Value.ref (ad b)), (1, Value.ref (ad q1)), (2, Value.ref (ad q2)), (3, vI x2), (4, vI x5)]) h ?_
      clear h
      intro x5 s6 ag28 hag28 h
      refine a_iload (pc := 28) a 4 dX2_orderKinds_28 rfl ?_
      refine g_wj0 78 0 0 [(0, Value.ref (ad b)), (1, Value.ref (ad q1)), (2, Value.ref (ad q2)), (3, vI x2), (4, vI x5)] [] h ?_ ?_
      · clear h
        intro  h
        refine a_aload_n (pc := 78) a 0 dX2_orderKinds_78 rfl rfl ?_
        refine a_getR (pc := 79) a 11 11 rfl tb vc2 w2 w9 (by decide) (by decide) 9 (q := (b + 9)) rfl rfl dX2_orderKinds_79 ?_
        refine a_iload (pc := 82) a 4 dX2_orderKinds_82 rfl ?_
        refine a_iload_n (pc := 84) a 3 dX2_orderKinds_84 rfl rfl ?_
        refine a_iast (pc := 85) a (tw hinj w10) (by decide) h.1 dX2_orderKinds_85 ?_
        replace h := h.2
        refine a_nmS (fun s9 hx => ?_)
        replace h := h s9 hx
        clear hx
        refine a_aload_n (pc := 86) a 0 dX2_orderKinds_86 rfl rfl ?_
        refine a_dup (pc := 87) a rfl dX2_orderKinds_87 ?_
        refine a_getI (pc := 88) a 12 12 rfl tb vc2 w2 w1 (by decide) (by decide) rfl dX2_orderKinds_88 ?_
        refine a_iconst (pc := 91) a dX2_orderKinds_91 ?_
        refine a_iadd (pc := 92) a dX2_orderKinds_92 ?_
        refine a_putI (pc := 93) a 12 12 rfl tb vc2 w2 w1 (by decide) (by decide) tyX2 tyX2_ok nmX2 rfl rfl (by decide +kernel) dX2_orderKinds_93 ?_
        refine a_nmS (fun s10 hx => ?_)
        replace h := h s10 hx
        clear hx
        refine a_iinc (pc := 96) a (ls1 := [(3, vI (x2 + 1)), (0, Value.ref (ad b)), (1, Value.ref (ad q1)), (2, Value.ref (ad q2)), (4, vI x5)]) 3 dX2_orderKinds_96 rfl (by decide) rfl ?_
        refine a_goto (pc := 99) a dX2_orderKinds_99 (tgt := 7) (by decide) ?_
        refine a_sub (ls1 := [(0, Value.ref (ad b)), (1, Value.ref (ad q1)), (2, Value.ref (ad q2)), (3, vI (x2 + 1))]) [1, 2, 3, 0] rfl ?_
        exact hag7 (x2 + 1) s10 h
      · clear h
        intro jj78 hjj78 h
        refine a_if_le (pc := 30) a h.1 dX2_orderKinds_30 (tgt := 78) (by decide) (fun hq => ?_) (fun hq => ?_)
        · replace h := h.2.1 hq
          clear hq
          exact hjj78  h
        · replace h := h.2.2 hq
          clear hq
          refine a_aload_n (pc := 33) a 1 dX2_orderKinds_33 rfl rfl ?_
          refine a_getR (pc := 34) a 6 6 rfl tq1 vc3 w7 w6 (by decide) (by decide) 6 (q := (q1 + 6)) rfl rfl dX2_orderKinds_34 ?_
          refine a_aload_n (pc := 37) a 0 dX2_orderKinds_37 rfl rfl ?_
          refine a_getR (pc := 38) a 11 11 rfl tb vc2 w2 w9 (by decide) (by decide) 9 (q := (b + 9)) rfl rfl dX2_orderKinds_38 ?_
          refine a_iload (pc := 41) a 4 dX2_orderKinds_41 rfl ?_
          refine a_iconst (pc := 43) a dX2_orderKinds_43 ?_
          refine a_isub (pc := 44) a dX2_orderKinds_44 ?_
          refine a_iald (pc := 45) a (tw hinj w10) (by decide) h.1 dX2_orderKinds_45 ?_
          replace h := h.2
          refine a_iald (pc := 46) a (tw hinj w8) (by decide) h.1 dX2_orderKinds_46 ?_
          replace h := h.2
          refine a_aload_n (pc := 47) a 1 dX2_orderKinds_47 rfl rfl ?_
          refine a_getR (pc := 48) a 6 6 rfl tq1 vc3 w7 w6 (by decide) (by decide) 6 (q := (q1 + 6)) rfl rfl dX2_orderKinds_48 ?_
          refine a_iload_n (pc := 51) a 3 dX2_orderKinds_51 rfl rfl ?_
          refine a_iald (pc := 52) a (tw hinj w8) (by decide) h.1 dX2_orderKinds_52 ?_
          replace h := h.2
          refine a_icmp_le (pc := 53) a h.1 h.2.1 dX2_orderKinds_53 (tgt := 78) (by decide) (fun hq => ?_) (fun hq => ?_)
          · replace h := h.2.2.1 hq
            clear hq
            exact hjj78  h
          · replace h := h.2.2.2 hq
            clear hq
            refine a_aload_n (pc := 56) a 0 dX2_orderKinds_56 rfl rfl ?_
            refine a_getR (pc := 57) a 11 11 rfl tb vc2 w2 w9 (by decide) (by decide) 9 (q := (b + 9)) rfl rfl dX2_orderKinds_57 ?_
            refine a_iload (pc := 60) a 4 dX2_orderKinds_60 rfl ?_
            refine a_aload_n (pc := 62) a 0 dX2_orderKinds_62 rfl rfl ?_
            refine a_getR (pc := 63) a 11 11 rfl tb vc2 w2 w9 (by decide) (by decide) 9 (q := (b + 9)) rfl rfl dX2_orderKinds_63 ?_
            refine a_iload (pc := 66) a 4 dX2_orderKinds_66 rfl ?_
            refine a_iconst (pc := 68) a dX2_orderKinds_68 ?_
            refine a_isub (pc := 69) a dX2_orderKinds_69 ?_
            refine a_iald (pc := 70) a (tw hinj w10) (by decide) h.1 dX2_orderKinds_70 ?_
            replace h := h.2
            refine a_iast (pc := 71) a (tw hinj w10) (by decide) h.1 dX2_orderKinds_71 ?_
            replace h := h.2
            refine a_nmS (fun s8 hx => ?_)
            replace h := h s8 hx
            clear hx
            refine a_iinc (pc := 72) a (ls1 := [(4, vI (x5 + (-1))), (0, Value.ref (ad b)), (1, Value.ref (ad q1)), (2, Value.ref (ad q2)), (3, vI x2)]) 4 dX2_orderKinds_72 rfl (by decide) rfl ?_
            refine a_goto (pc := 75) a dX2_orderKinds_75 (tgt := 28) (by decide) ?_
            refine a_sub (ls1 := [(0, Value.ref (ad b)), (1, Value.ref (ad q1)), (2, Value.ref (ad q2)), (3, vI x2), (4, vI (x5 + (-1)))]) [1, 2, 3, 4, 0] rfl ?_
            exact hag28 (x5 + (-1)) s8 h

set_option maxRecDepth 100000 in
set_option maxHeartbeats 4000000 in
theorem c_X2_add {l : Launch} {D : va_G} {X : XI} {ad : Nat → Nat} (hinj : adI ad) (hl0 : l.stackTraces = false) {b : Nat} {p1 : Int} {p2 : Int} {p3 : Int} {p4 : Int} {p5 : Int} {p6 : Int} (tb : tyc b (6, 0)) {σ : St} {K : St → Prop} (h : f_X2_add b p1 p2 p3 p4 p5 p6 σ K) (sz : Nat) : Met l yX2_add (WW (.code yX2_add cX2_add 7 none)) { frames := 0, cells := 0, slots := 0, locals := 0 } (va_Pc [Value.ref (ad b), vI p1, vI p2, vI p3, vI p4, vI p5, vI p6] (WD D X ad σ sz)) (QV D X ad sz K) 0 0 (AA ad sz) := by
  refine a_start (cc := cX2_add) (maxL := 7) (ret := none) (own := RX2) [Value.ref (ad b), vI p1, vI p2, vI p3, vI p4, vI p5, vI p6] (by decide) rfl rfl (Nat.le_of_ble_eq_true rfl) hinj hl0 ?_
  intro p e s m below meth c a hr hsz
  subst hsz
  have hts := a.1.2.2.2.2
  have w1 := hts (Cond.fieldLink RX2 43 "SightLegend$Lines" "size" "I") (List.mem_cons_of_mem _ (GL_9 _ (by decide +kernel)))
  have w2 : ∀ w ∈ u_ws RX2 TX2 14, w ∈ WW (.code yX2_add cX2_add 7 none) := fun w h => List.mem_cons_of_mem _ (inlX2 w h)
  have w3 := hts (Cond.fieldLink RX2 9 "SightLegend$Lines" "type" "[I") (List.mem_cons_of_mem _ (GL_4 _ (by decide +kernel)))
  have w4 : tyc (b + 1) (0, 77) := ty_of (d := 1) (t1 := (0, 77)) (by decide +kernel) rfl tb
  have w5 := hts (Cond.fieldLink RX2 15 "SightLegend$Lines" "kind" "[I") (List.mem_cons_of_mem _ (GL_4 _ (by decide +kernel)))
  have w6 : tyc (b + 2) (0, 77) := ty_of (d := 2) (t1 := (0, 77)) (by decide +kernel) rfl tb
  have w7 := hts (Cond.fieldLink RX2 18 "SightLegend$Lines" "group" "[I") (List.mem_cons_of_mem _ (GL_4 _ (by decide +kernel)))
  have w8 : tyc (b + 3) (0, 77) := ty_of (d := 3) (t1 := (0, 77)) (by decide +kernel) rfl tb
  have w9 := hts (Cond.fieldLink RX2 21 "SightLegend$Lines" "first" "[I") (List.mem_cons_of_mem _ (GL_4 _ (by decide +kernel)))
  have w10 : tyc (b + 4) (0, 77) := ty_of (d := 4) (t1 := (0, 77)) (by decide +kernel) rfl tb
  have w11 := hts (Cond.fieldLink RX2 24 "SightLegend$Lines" "last" "[I") (List.mem_cons_of_mem _ (GL_4 _ (by decide +kernel)))
  have w12 : tyc (b + 5) (0, 77) := ty_of (d := 5) (t1 := (0, 77)) (by decide +kernel) rfl tb
  have w13 := hts (Cond.fieldLink RX2 27 "SightLegend$Lines" "signs" "[I") (List.mem_cons_of_mem _ (GL_4 _ (by decide +kernel)))
  have w14 : tyc (b + 6) (0, 77) := ty_of (d := 6) (t1 := (0, 77)) (by decide +kernel) rfl tb
  unfold f_X2_add at h
  refine a_sub (ls1 := [(0, Value.ref (ad b)), (1, vI p1), (2, vI p2), (3, vI p3), (4, vI p4), (5, vI p5), (6, vI p6)]) [0, 1, 2, 3, 4, 5, 6] rfl ?_
  refine a_aload_n (pc := 0) a 0 dX2_add_0 rfl rfl ?_
  refine a_getI (pc := 1) a 0 0 rfl tb vc2 w2 w1 (by decide) (by decide) rfl dX2_add_1 ?_
  refine a_bipush (pc := 4) a dX2_add_4 (by decide) ?_
  refine a_icmp_lt (pc := 6) a h.1 ⟨by decide, by decide⟩ dX2_add_6 (tgt := 10) (by decide) (fun hq => ?_) (fun hq => ?_)
  · replace h := h.2.1 hq
    clear hq
    refine a_aload_n (pc := 10) a 0 dX2_add_10 rfl rfl ?_
    refine a_getR (pc := 11) a 1 1 rfl tb vc2 w2 w3 (by decide) (by decide) 1 (q := (b + 1)) rfl rfl dX2_add_11 ?_
    refine a_aload_n (pc := 14) a 0 dX2_add_14 rfl rfl ?_
    refine a_getI (pc := 15) a 0 0 rfl tb vc2 w2 w1 (by decide) (by decide) rfl dX2_add_15 ?_
    refine a_iload_n (pc := 18) a 1 dX2_add_18 rfl rfl ?_
    refine a_iast (pc := 19) a (tw hinj w4) (by decide) h.1 dX2_add_19 ?_
    replace h := h.2
    refine a_nmS (fun s1 hx => ?_)
    replace h := h s1 hx
    clear hx
    refine a_aload_n (pc := 20) a 0 dX2_add_20 rfl rfl ?_
    refine a_getR (pc := 21) a 2 2 rfl tb vc2 w2 w5 (by decide) (by decide) 2 (q := (b + 2)) rfl rfl dX2_add_21 ?_
    refine a_aload_n (pc := 24) a 0 dX2_add_24 rfl rfl ?_
    refine a_getI (pc := 25) a 0 0 rfl tb vc2 w2 w1 (by decide) (by decide) rfl dX2_add_25 ?_
    refine a_iload_n (pc := 28) a 2 dX2_add_28 rfl rfl ?_
    refine a_iast (pc := 29) a (tw hinj w6) (by decide) h.1 dX2_add_29 ?_
    replace h := h.2
    refine a_nmS (fun s2 hx => ?_)
    replace h := h s2 hx
    clear hx
    refine a_aload_n (pc := 30) a 0 dX2_add_30 rfl rfl ?_
    refine a_getR (pc := 31) a 3 3 rfl tb vc2 w2 w7 (by decide) (by decide) 3 (q := (b + 3)) rfl rfl dX2_add_31 ?_
    refine a_aload_n (pc := 34) a 0 dX2_add_34 rfl rfl ?_
    refine a_getI (pc := 35) a 0 0 rfl tb vc2 w2 w1 (by decide) (by decide) rfl dX2_add_35 ?_
    refine a_iload_n (pc := 38) a 3 dX2_add_38 rfl rfl ?_
    refine a_iast (pc := 39) a (tw hinj w8) (by decide) h.1 dX2_add_39 ?_
    replace h := h.2
    refine a_nmS (fun s3 hx => ?_)
    replace h := h s3 hx
    clear hx
    refine a_aload_n (pc := 40) a 0 dX2_add_40 rfl rfl ?_
    refine a_getR (pc := 41) a 4 4 rfl tb vc2 w2 w9 (by decide) (by decide) 4 (q := (b + 4)) rfl rfl dX2_add_41 ?_
    refine a_aload_n (pc := 44) a 0 dX2_add_44 rfl rfl ?_
    refine a_getI (pc := 45) a 0 0 rfl tb vc2 w2 w1 (by decide) (by decide) rfl dX2_add_45 ?_
    refine a_iload (pc := 48) a 4 dX2_add_48 rfl ?_
    refine a_iast (pc := 50) a (tw hinj w10) (by decide) h.1 dX2_add_50 ?_
    replace h := h.2
    refine a_nmS (fun s4 hx => ?_)
    replace h := h s4 hx
    clear hx
    refine a_aload_n (pc := 51) a 0 dX2_add_51 rfl rfl ?_
    refine a_getR (pc := 52) a 5 5 rfl tb vc2 w2 w11 (by decide) (by decide) 5 (q := (b + 5)) rfl rfl dX2_add_52 ?_
    refine a_aload_n (pc := 55) a 0 dX2_add_55 rfl rfl ?_
    refine a_getI (pc := 56) a 0 0 rfl tb vc2 w2 w1 (by decide) (by decide) rfl dX2_add_56 ?_
    refine a_iload (pc := 59) a 5 dX2_add_59 rfl ?_
    refine a_iast (pc := 61) a (tw hinj w12) (by decide) h.1 dX2_add_61 ?_
    replace h := h.2
    refine a_nmS (fun s5 hx => ?_)
    replace h := h s5 hx
    clear hx
    refine a_aload_n (pc := 62) a 0 dX2_add_62 rfl rfl ?_
    refine a_getR (pc := 63) a 6 6 rfl tb vc2 w2 w13 (by decide) (by decide) 6 (q := (b + 6)) rfl rfl dX2_add_63 ?_
    refine a_aload_n (pc := 66) a 0 dX2_add_66 rfl rfl ?_
    refine a_getI (pc := 67) a 0 0 rfl tb vc2 w2 w1 (by decide) (by decide) rfl dX2_add_67 ?_
    refine a_iload (pc := 70) a 6 dX2_add_70 rfl ?_
    refine a_iast (pc := 72) a (tw hinj w14) (by decide) h.1 dX2_add_72 ?_
    replace h := h.2
    refine a_nmS (fun s6 hx => ?_)
    replace h := h s6 hx
    clear hx
    refine a_aload_n (pc := 73) a 0 dX2_add_73 rfl rfl ?_
    refine a_dup (pc := 74) a rfl dX2_add_74 ?_
    refine a_getI (pc := 75) a 0 0 rfl tb vc2 w2 w1 (by decide) (by decide) rfl dX2_add_75 ?_
    refine a_iconst (pc := 78) a dX2_add_78 ?_
    refine a_iadd (pc := 79) a dX2_add_79 ?_
    refine a_putI (pc := 80) a 0 0 rfl tb vc2 w2 w1 (by decide) (by decide) tyX2 tyX2_ok nmX2 rfl rfl (by decide +kernel) dX2_add_80 ?_
    refine a_nmS (fun s7 hx => ?_)
    replace h := h s7 hx
    clear hx
    exact e_v (pc := 83) a hr dX2_add_83 h
  · replace h := h.2.2 hq
    clear hq
    exact e_v (pc := 9) a hr dX2_add_9 h

set_option maxRecDepth 100000 in
set_option maxHeartbeats 4000000 in
theorem c_X2_addKindLines {l : Launch} {D : va_G} {X : XI} {ad : Nat → Nat} (hinj : adI ad) (hl0 : l.stackTraces = false) {b : Nat} {p1 : Int} {p2 : Int} {q3 : Nat} (tb : tyc b (6, 0)) (tq3 : tyc q3 (8, 0)) {σ : St} {K : St → Prop} (h : f_X2_addKindLines b p1 p2 q3 σ K) (sz : Nat) : Met l yX2_addKindLines (WW (.code yX2_addKindLines cX2_addKindLines 6 none)) { frames := 1, cells := 0, slots := 0, locals := 26 } (va_Pc [Value.ref (ad b), vI p1, vI p2, Value.ref (ad q3)] (WD D X ad σ sz)) (QV D X ad sz K) 0 0 (AA ad sz) := by
  refine a_start (cc := cX2_addKindLines) (maxL := 6) (ret := none) (own := RX2) [Value.ref (ad b), vI p1, vI p2, Value.ref (ad q3)] (by decide) rfl rfl (Nat.le_of_ble_eq_true rfl) hinj hl0 ?_
  intro p e s m below meth c a hr hsz
  subst hsz
  have hts := a.1.2.2.2.2
  have w1 := hts (Cond.fieldLink RX2 65 "SightLegend$Ranges" "size" "[I") (List.mem_cons_of_mem _ (GL_10 _ (by decide +kernel)))
  have w2 : ∀ w ∈ u_ws RX4 TX4 6, w ∈ WW (.code yX2_addKindLines cX2_addKindLines 6 none) := fun w h => List.mem_cons_of_mem _ (inlX4 w h)
  have w3 : tyc (q3 + 3) (0, 12) := ty_of (d := 3) (t1 := (0, 12)) (by decide +kernel) rfl tq3
  have w4 := hts (Cond.fieldLink RX2 82 "SightLegend$Ranges" "first" "[I") (List.mem_cons_of_mem _ (GL_11 _ (by decide +kernel)))
  have w5 : tyc (q3 + 4) (0, 72) := ty_of (d := 4) (t1 := (0, 72)) (by decide +kernel) rfl tq3
  have w6 := hts (Cond.fieldLink RX2 83 "SightLegend$Ranges" "last" "[I") (List.mem_cons_of_mem _ (GL_11 _ (by decide +kernel)))
  have w7 : tyc (q3 + 5) (0, 72) := ty_of (d := 5) (t1 := (0, 72)) (by decide +kernel) rfl tq3
  have w8 := hts (Cond.fieldLink RX2 84 "SightLegend$Ranges" "signs" "[I") (List.mem_cons_of_mem _ (GL_11 _ (by decide +kernel)))
  have w9 : tyc (q3 + 6) (0, 72) := ty_of (d := 6) (t1 := (0, 72)) (by decide +kernel) rfl tq3
  unfold f_X2_addKindLines at h
  refine a_sub (ls1 := [(0, Value.ref (ad b)), (1, vI p1), (2, vI p2), (3, Value.ref (ad q3))]) [0, 1, 2, 3] rfl ?_
  refine a_iload_n (pc := 0) a 1 dX2_addKindLines_0 rfl rfl ?_
  refine a_bipush (pc := 1) a dX2_addKindLines_1 (by decide) ?_
  refine a_imul (pc := 3) a dX2_addKindLines_3 ?_
  refine a_nm (fun x1 hx => ?_)
  replace h := h x1 hx
  clear hx
  refine a_istore (pc := 4) a (ls1 := [(4, vI x1), (0, Value.ref (ad b)), (1, vI p1), (2, vI p2), (3, Value.ref (ad q3))]) dX2_addKindLines_4 (by decide) rfl ?_
  refine a_iload (pc := 6) a 0 dX2_addKindLines_6 rfl ?_
  refine a_istore (pc := 8) a (ls1 := [(5, vI x1), (4, vI x1), (0, Value.ref (ad b)), (1, vI p1), (2, vI p2), (3, Value.ref (ad q3))]) dX2_addKindLines_8 (by decide) rfl ?_
  refine a_sub (ls1 := [(0, Value.ref (ad b)), (1, vI p1), (2, vI p2), (3, Value.ref (ad q3)), (4, vI x1), (5, vI x1)]) [2, 3, 4, 5, 1, 0] rfl ?_
  refine g_wl1s (fun x2 => [(0, Value.ref (ad b)), (1, vI p1), (2, vI p2), (3, Value.ref (ad q3)), (4, vI x1), (5, vI x2)]) h ?_
  clear h
  intro x2 s3 ag10 hag10 h
  refine a_iload (pc := 10) a 5 dX2_addKindLines_10 rfl ?_
  refine a_iload (pc := 12) a 4 dX2_addKindLines_12 rfl ?_
  refine a_aload_n (pc := 14) a 3 dX2_addKindLines_14 rfl rfl ?_
  refine a_getR (pc := 15) a 2 2 rfl tq3 vc4 w2 w1 (by decide) (by decide) 3 (q := (q3 + 3)) rfl rfl dX2_addKindLines_15 ?_
  refine a_iload_n (pc := 18) a 1 dX2_addKindLines_18 rfl rfl ?_
  refine a_iald (pc := 19) a (tw hinj w3) (by decide) h.1 dX2_addKindLines_19 ?_
  replace h := h.2
  refine a_iadd (pc := 20) a dX2_addKindLines_20 ?_
  refine a_icmp_ge (pc := 21) a h.1 h.2.1 dX2_addKindLines_21 (tgt := 58) (by decide) (fun hq => ?_) (fun hq => ?_)
  · replace h := h.2.2.1 hq
    clear hq
    exact e_v (pc := 58) a hr dX2_addKindLines_58 h
  · replace h := h.2.2.2 hq
    clear hq
    refine a_aload_n (pc := 24) a 0 dX2_addKindLines_24 rfl rfl ?_
    refine a_iconst (pc := 25) a dX2_addKindLines_25 ?_
    refine a_iload_n (pc := 26) a 1 dX2_addKindLines_26 rfl rfl ?_
    refine a_iload_n (pc := 27) a 2 dX2_addKindLines_27 rfl rfl ?_
    refine a_aload_n (pc := 28) a 3 dX2_addKindLines_28 rfl rfl ?_
    refine a_getR (pc := 29) a 3 3 rfl tq3 vc4 w2 w4 (by decide) (by decide) 4 (q := (q3 + 4)) rfl rfl dX2_addKindLines_29 ?_
    refine a_iload (pc := 32) a 5 dX2_addKindLines_32 rfl ?_
    refine a_iald (pc := 34) a (tw hinj w5) (by decide) h.1 dX2_addKindLines_34 ?_
    replace h := h.2
    refine a_aload_n (pc := 35) a 3 dX2_addKindLines_35 rfl rfl ?_
    refine a_getR (pc := 36) a 4 4 rfl tq3 vc4 w2 w6 (by decide) (by decide) 5 (q := (q3 + 5)) rfl rfl dX2_addKindLines_36 ?_
    refine a_iload (pc := 39) a 5 dX2_addKindLines_39 rfl ?_
    refine a_iald (pc := 41) a (tw hinj w7) (by decide) h.1 dX2_addKindLines_41 ?_
    replace h := h.2
    refine a_aload_n (pc := 42) a 3 dX2_addKindLines_42 rfl rfl ?_
    refine a_getR (pc := 43) a 5 5 rfl tq3 vc4 w2 w8 (by decide) (by decide) 6 (q := (q3 + 6)) rfl rfl dX2_addKindLines_43 ?_
    refine a_iload (pc := 46) a 5 dX2_addKindLines_46 rfl ?_
    refine a_iald (pc := 48) a (tw hinj w9) (by decide) h.1 dX2_addKindLines_48 ?_
    replace h := h.2
    refine a_cvv (pc := 49) a (As := [vI 0, vI p1, vI p2, vI (s3 (q3 + 4) x2), vI (s3 (q3 + 5) x2), vI (s3 (q3 + 6) x2)]) (rest := []) tb vc2 (fun sz => c_X2_add hinj hl0 tb h sz) (cwV 6 hts (gl_V (GL_11 _ (by decide +kernel)) (GL_11 _ (by decide +kernel)) (GL_11 _ (by decide +kernel)) (GL_3 _ (by decide +kernel)) (GL_11 _ (by decide +kernel))) rfl rfl rfl (by decide +kernel) ⟨Nat.le_of_ble_eq_true rfl, Nat.le_of_ble_eq_true rfl⟩) rfl rfl (Nat.le_of_ble_eq_true rfl) ⟨Nat.le_of_ble_eq_true rfl, Nat.le_of_ble_eq_true rfl⟩ dX2_addKindLines_49 ?_
    clear h
    intro s4 h
    refine a_iinc (pc := 52) a (ls1 := [(5, vI (x2 + 1)), (0, Value.ref (ad b)), (1, vI p1), (2, vI p2), (3, Value.ref (ad q3)), (4, vI x1)]) 5 dX2_addKindLines_52 rfl (by decide) rfl ?_
    refine a_goto (pc := 55) a dX2_addKindLines_55 (tgt := 10) (by decide) ?_
    refine a_sub (ls1 := [(0, Value.ref (ad b)), (1, vI p1), (2, vI p2), (3, Value.ref (ad q3)), (4, vI x1), (5, vI (x2 + 1))]) [1, 2, 3, 4, 5, 0] rfl ?_
    exact hag10 (x2 + 1) s4 h

set_option maxRecDepth 100000 in
set_option maxHeartbeats 4000000 in
theorem c_X2_addGroup {l : Launch} {D : va_G} {X : XI} {ad : Nat → Nat} (hinj : adI ad) (hl0 : l.stackTraces = false) {b : Nat} {q1 : Nat} {p2 : Int} {q3 : Nat} (tb : tyc b (6, 0)) (tq1 : tyc q1 (7, 0)) (tq3 : tyc q3 (8, 0)) {σ : St} {K : St → Prop} (h : f_X2_addGroup b q1 p2 q3 σ K) (sz : Nat) : Met l yX2_addGroup (WW (.code yX2_addGroup cX2_addGroup 8 none)) { frames := 2, cells := 0, slots := 0, locals := 51 } (va_Pc [Value.ref (ad b), Value.ref (ad q1), vI p2, Value.ref (ad q3)] (WD D X ad σ sz)) (QV D X ad sz K) 0 0 (AA ad sz) := by
  refine a_start (cc := cX2_addGroup) (maxL := 8) (ret := none) (own := RX2) [Value.ref (ad b), Value.ref (ad q1), vI p2, Value.ref (ad q3)] (by decide) rfl rfl (Nat.le_of_ble_eq_true rfl) hinj hl0 ?_
  intro p e s m below meth c a hr hsz
  subst hsz
  have hts := a.1.2.2.2.2
  have w1 := hts (Cond.fieldLink RX2 75 "SightLegend$MapState" "way" "[I") (List.mem_cons_of_mem _ (GL_11 _ (by decide +kernel)))
  have w2 : ∀ w ∈ u_ws RX3 TX3 13, w ∈ WW (.code yX2_addGroup cX2_addGroup 8 none) := fun w h => List.mem_cons_of_mem _ (inlX3 w h)
  have w3 : tyc (q1 + 10) (0, 5) := ty_of (d := 10) (t1 := (0, 5)) (by decide +kernel) rfl tq1
  have w4 := hts (Cond.fieldLink RX2 51 "SightLegend$Lines" "orderSize" "I") (List.mem_cons_of_mem _ (GL_10 _ (by decide +kernel)))
  have w5 : ∀ w ∈ u_ws RX2 TX2 14, w ∈ WW (.code yX2_addGroup cX2_addGroup 8 none) := fun w h => List.mem_cons_of_mem _ (inlX2 w h)
  have w6 := hts (Cond.fieldLink RX2 54 "SightLegend$MapState" "group" "[I") (List.mem_cons_of_mem _ (GL_10 _ (by decide +kernel)))
  have w7 : tyc (q1 + 7) (0, 12) := ty_of (d := 7) (t1 := (0, 12)) (by decide +kernel) rfl tq1
  have w8 := hts (Cond.fieldLink RX2 36 "SightLegend$Lines" "order" "[I") (List.mem_cons_of_mem _ (GL_4 _ (by decide +kernel)))
  have w9 : tyc (b + 9) (0, 12) := ty_of (d := 9) (t1 := (0, 12)) (by decide +kernel) rfl tb
  have w10 := hts (Cond.fieldLink RX2 65 "SightLegend$Ranges" "size" "[I") (List.mem_cons_of_mem _ (GL_10 _ (by decide +kernel)))
  have w11 : ∀ w ∈ u_ws RX4 TX4 6, w ∈ WW (.code yX2_addGroup cX2_addGroup 8 none) := fun w h => List.mem_cons_of_mem _ (inlX4 w h)
  have w12 : tyc (q3 + 3) (0, 12) := ty_of (d := 3) (t1 := (0, 12)) (by decide +kernel) rfl tq3
  have w13 := hts (Cond.fieldLink RX2 72 "SightLegend$Ranges" "total" "[I") (List.mem_cons_of_mem _ (GL_11 _ (by decide +kernel)))
  have w14 : tyc (q3 + 1) (0, 12) := ty_of (d := 1) (t1 := (0, 12)) (by decide +kernel) rfl tq3
  unfold f_X2_addGroup at h
  refine a_sub (ls1 := [(0, Value.ref (ad b)), (1, Value.ref (ad q1)), (2, vI p2), (3, Value.ref (ad q3))]) [0, 1, 2, 3] rfl ?_
  refine a_iconst (pc := 0) a dX2_addGroup_0 ?_
  refine a_istore (pc := 1) a (ls1 := [(4, vI 0), (0, Value.ref (ad b)), (1, Value.ref (ad q1)), (2, vI p2), (3, Value.ref (ad q3))]) dX2_addGroup_1 (by decide) rfl ?_
  refine a_iconst (pc := 3) a dX2_addGroup_3 ?_
  refine a_istore (pc := 4) a (ls1 := [(5, vI 0), (4, vI 0), (0, Value.ref (ad b)), (1, Value.ref (ad q1)), (2, vI p2), (3, Value.ref (ad q3))]) dX2_addGroup_4 (by decide) rfl ?_
  refine a_iconst (pc := 6) a dX2_addGroup_6 ?_
  refine a_istore (pc := 7) a (ls1 := [(6, vI 0), (5, vI 0), (4, vI 0), (0, Value.ref (ad b)), (1, Value.ref (ad q1)), (2, vI p2), (3, Value.ref (ad q3))]) dX2_addGroup_7 (by decide) rfl ?_
  refine a_iconst (pc := 9) a dX2_addGroup_9 ?_
  refine a_istore (pc := 10) a (ls1 := [(7, vI 0), (6, vI 0), (5, vI 0), (4, vI 0), (0, Value.ref (ad b)), (1, Value.ref (ad q1)), (2, vI p2), (3, Value.ref (ad q3))]) dX2_addGroup_10 (by decide) rfl ?_
  refine a_sub (ls1 := [(0, Value.ref (ad b)), (1, Value.ref (ad q1)), (2, vI p2), (3, Value.ref (ad q3)), (4, vI 0), (5, vI 0), (6, vI 0), (7, vI 0)]) [4, 5, 6, 7, 3, 2, 1, 0] rfl ?_
  refine g_wl4 (fun x1 x2 x3 x4 => [(0, Value.ref (ad b)), (1, Value.ref (ad q1)), (2, vI p2), (3, Value.ref (ad q3)), (4, vI x1), (5, vI x2), (6, vI x3), (7, vI x4)]) h ?_
  clear h
  intro x1 x2 x3 x4 ag12 hag12 h
  refine a_iload (pc := 12) a 7 dX2_addGroup_12 rfl ?_
  refine a_bipush (pc := 14) a dX2_addGroup_14 (by decide) ?_
  refine a_icmp_ge (pc := 16) a h.1 ⟨by decide, by decide⟩ dX2_addGroup_16 (tgt := 71) (by decide) (fun hq => ?_) (fun hq => ?_)
  · replace h := h.2.1 hq
    clear hq
    refine a_aload_n (pc := 71) a 1 dX2_addGroup_71 rfl rfl ?_
    refine a_getR (pc := 72) a 10 10 rfl tq1 vc3 w2 w1 (by decide) (by decide) 10 (q := (q1 + 10)) rfl rfl dX2_addGroup_72 ?_
    refine a_iload_n (pc := 75) a 2 dX2_addGroup_75 rfl rfl ?_
    refine a_iald (pc := 76) a (tw hinj w3) (by decide) h.1 dX2_addGroup_76 ?_
    replace h := h.2
    refine a_iconst (pc := 77) a dX2_addGroup_77 ?_
    refine g_wj0 106 0 0 [(0, Value.ref (ad b)), (1, Value.ref (ad q1)), (2, vI p2), (3, Value.ref (ad q3)), (5, vI x2)] [] h ?_ ?_
    · clear h
      intro  h
      refine a_iload (pc := 106) a 4 dX2_addGroup_106 rfl ?_
      refine a_iconst (pc := 108) a dX2_addGroup_108 ?_
      refine g_wj0s 122 0 0 [(0, Value.ref (ad b)), (1, Value.ref (ad q1)), (2, vI p2), (3, Value.ref (ad q3))] [] h ?_ ?_
      · clear h
        intro s9 h
        refine a_iconst (pc := 122) a dX2_addGroup_122 ?_
        refine a_istore (pc := 123) a (ls1 := [(7, vI 0), (0, Value.ref (ad b)), (1, Value.ref (ad q1)), (2, vI p2), (3, Value.ref (ad q3))]) dX2_addGroup_123 (by decide) rfl ?_
        refine a_sub (ls1 := [(0, Value.ref (ad b)), (1, Value.ref (ad q1)), (2, vI p2), (3, Value.ref (ad q3)), (7, vI 0)]) [1, 2, 3, 4, 0] rfl ?_
        refine g_wl1s (fun x10 => [(0, Value.ref (ad b)), (1, Value.ref (ad q1)), (2, vI p2), (3, Value.ref (ad q3)), (7, vI x10)]) h ?_
        clear h
        intro x10 s11 ag125 hag125 h
        refine a_iload (pc := 125) a 4 dX2_addGroup_125 rfl ?_
        refine a_aload_n (pc := 127) a 0 dX2_addGroup_127 rfl rfl ?_
        refine a_getI (pc := 128) a 12 12 rfl tb vc2 w5 w4 (by decide) (by decide) rfl dX2_addGroup_128 ?_
        refine a_icmp_ge (pc := 131) a h.1 h.2.1 dX2_addGroup_131 (tgt := 169) (by decide) (fun hq => ?_) (fun hq => ?_)
        · replace h := h.2.2.1 hq
          clear hq
          exact e_v (pc := 169) a hr dX2_addGroup_169 h
        · replace h := h.2.2.2 hq
          clear hq
          refine a_aload_n (pc := 134) a 1 dX2_addGroup_134 rfl rfl ?_
          refine a_getR (pc := 135) a 7 7 rfl tq1 vc3 w2 w6 (by decide) (by decide) 7 (q := (q1 + 7)) rfl rfl dX2_addGroup_135 ?_
          refine a_aload_n (pc := 138) a 0 dX2_addGroup_138 rfl rfl ?_
          refine a_getR (pc := 139) a 11 11 rfl tb vc2 w5 w8 (by decide) (by decide) 9 (q := (b + 9)) rfl rfl dX2_addGroup_139 ?_
          refine a_iload (pc := 142) a 4 dX2_addGroup_142 rfl ?_
          refine a_iald (pc := 144) a (tw hinj w9) (by decide) h.1 dX2_addGroup_144 ?_
          replace h := h.2
          refine a_iald (pc := 145) a (tw hinj w7) (by decide) h.1 dX2_addGroup_145 ?_
          replace h := h.2
          refine a_iload_n (pc := 146) a 2 dX2_addGroup_146 rfl rfl ?_
          refine a_icmp_ne (pc := 147) a h.1 h.2.1 dX2_addGroup_147 (tgt := 163) (by decide) (fun hq => ?_) (fun hq => ?_)
          · replace h := h.2.2.1 hq
            clear hq
            refine a_iinc (pc := 163) a (ls1 := [(7, vI (x10 + 1)), (0, Value.ref (ad b)), (1, Value.ref (ad q1)), (2, vI p2), (3, Value.ref (ad q3))]) 4 dX2_addGroup_163 rfl (by decide) rfl ?_
            refine a_goto (pc := 166) a dX2_addGroup_166 (tgt := 125) (by decide) ?_
            refine a_sub (ls1 := [(0, Value.ref (ad b)), (1, Value.ref (ad q1)), (2, vI p2), (3, Value.ref (ad q3)), (7, vI (x10 + 1))]) [1, 2, 3, 4, 0] rfl ?_
            exact hag125 (x10 + 1) s11 h
          · replace h := h.2.2.2 hq
            clear hq
            refine a_aload_n (pc := 150) a 0 dX2_addGroup_150 rfl rfl ?_
            refine a_aload_n (pc := 151) a 0 dX2_addGroup_151 rfl rfl ?_
            refine a_getR (pc := 152) a 11 11 rfl tb vc2 w5 w8 (by decide) (by decide) 9 (q := (b + 9)) rfl rfl dX2_addGroup_152 ?_
            refine a_iload (pc := 155) a 4 dX2_addGroup_155 rfl ?_
            refine a_iald (pc := 157) a (tw hinj w9) (by decide) h.1 dX2_addGroup_157 ?_
            replace h := h.2
            refine a_iload_n (pc := 158) a 2 dX2_addGroup_158 rfl rfl ?_
            refine a_aload_n (pc := 159) a 3 dX2_addGroup_159 rfl rfl ?_
            refine a_cvv (pc := 160) a (As := [vI (s11 (b + 9) x10), vI p2, Value.ref (ad q3)]) (rest := []) tb vc2 (fun sz => c_X2_addKindLines hinj hl0 tb tq3 h sz) (cwV 3 hts (gl_V (GL_11 _ (by decide +kernel)) (GL_11 _ (by decide +kernel)) (GL_11 _ (by decide +kernel)) (GL_3 _ (by decide +kernel)) (GL_11 _ (by decide +kernel))) rfl rfl rfl (by decide +kernel) ⟨Nat.le_of_ble_eq_true rfl, Nat.le_of_ble_eq_true rfl⟩) rfl rfl (Nat.le_of_ble_eq_true rfl) ⟨Nat.le_of_ble_eq_true rfl, Nat.le_of_ble_eq_true rfl⟩ dX2_addGroup_160 ?_
            clear h
            intro s12 h
            refine a_iinc (pc := 163) a (ls1 := [(7, vI (x10 + 1)), (0, Value.ref (ad b)), (1, Value.ref (ad q1)), (2, vI p2), (3, Value.ref (ad q3))]) 4 dX2_addGroup_163 rfl (by decide) rfl ?_
            refine a_goto (pc := 166) a dX2_addGroup_166 (tgt := 125) (by decide) ?_
            refine a_sub (ls1 := [(0, Value.ref (ad b)), (1, Value.ref (ad q1)), (2, vI p2), (3, Value.ref (ad q3)), (7, vI (x10 + 1))]) [1, 2, 3, 4, 0] rfl ?_
            exact hag125 (x10 + 1) s12 h
      · clear h
        intro jj122 hjj122 h
        refine a_icmp_lt (pc := 109) a h.1 ⟨by decide, by decide⟩ dX2_addGroup_109 (tgt := 122) (by decide) (fun hq => ?_) (fun hq => ?_)
        · replace h := h.2.1 hq
          clear hq
          refine a_sub (ls1 := [(0, Value.ref (ad b)), (1, Value.ref (ad q1)), (2, vI p2), (3, Value.ref (ad q3))]) [0, 1, 2, 3] rfl ?_
          exact hjj122 σ h
        · replace h := h.2.2 hq
          clear hq
          refine a_aload_n (pc := 112) a 0 dX2_addGroup_112 rfl rfl ?_
          refine a_iconst (pc := 113) a dX2_addGroup_113 ?_
          refine a_iconst (pc := 114) a dX2_addGroup_114 ?_
          refine a_iload_n (pc := 115) a 2 dX2_addGroup_115 rfl rfl ?_
          refine a_iconst (pc := 116) a dX2_addGroup_116 ?_
          refine a_iconst (pc := 117) a dX2_addGroup_117 ?_
          refine a_iconst (pc := 118) a dX2_addGroup_118 ?_
          refine a_cvv (pc := 119) a (As := [vI 1, vI (-1), vI p2, vI (-1), vI (-1), vI 0]) (rest := []) tb vc2 (fun sz => c_X2_add hinj hl0 tb h sz) (cwV 6 hts (gl_V (GL_11 _ (by decide +kernel)) (GL_11 _ (by decide +kernel)) (GL_11 _ (by decide +kernel)) (GL_3 _ (by decide +kernel)) (GL_11 _ (by decide +kernel))) rfl rfl rfl (by decide +kernel) ⟨Nat.le_of_ble_eq_true rfl, Nat.le_of_ble_eq_true rfl⟩) rfl rfl (Nat.le_of_ble_eq_true rfl) ⟨Nat.le_of_ble_eq_true rfl, Nat.le_of_ble_eq_true rfl⟩ dX2_addGroup_119 ?_
          clear h
          intro s8 h
          refine a_sub (ls1 := [(0, Value.ref (ad b)), (1, Value.ref (ad q1)), (2, vI p2), (3, Value.ref (ad q3))]) [0, 1, 2, 3] rfl ?_
          refine a_wid 0 0 (by omega) (by omega) ?_
          exact hjj122 s8 h
    · clear h
      intro jj106 hjj106 h
      refine a_icmp_ne (pc := 78) a h.1 ⟨by decide, by decide⟩ dX2_addGroup_78 (tgt := 106) (by decide) (fun hq => ?_) (fun hq => ?_)
      · replace h := h.2.1 hq
        clear hq
        refine a_sub (ls1 := [(0, Value.ref (ad b)), (1, Value.ref (ad q1)), (2, vI p2), (3, Value.ref (ad q3)), (5, vI x2)]) [0, 1, 2, 3, 5] rfl ?_
        exact hjj106  h
      · replace h := h.2.2 hq
        clear hq
        refine a_iload (pc := 81) a 5 dX2_addGroup_81 rfl ?_
        refine a_iconst (pc := 83) a dX2_addGroup_83 ?_
        refine a_icmp_lt (pc := 84) a h.1 ⟨by decide, by decide⟩ dX2_addGroup_84 (tgt := 106) (by decide) (fun hq => ?_) (fun hq => ?_)
        · replace h := h.2.1 hq
          clear hq
          refine a_sub (ls1 := [(0, Value.ref (ad b)), (1, Value.ref (ad q1)), (2, vI p2), (3, Value.ref (ad q3)), (5, vI x2)]) [0, 1, 2, 3, 5] rfl ?_
          exact hjj106  h
        · replace h := h.2.2 hq
          clear hq
          refine a_iload (pc := 87) a 5 dX2_addGroup_87 rfl ?_
          refine a_iload (pc := 89) a 4 dX2_addGroup_89 rfl ?_
          refine a_icmp_ne (pc := 91) a h.1 h.2.1 dX2_addGroup_91 (tgt := 106) (by decide) (fun hq => ?_) (fun hq => ?_)
          · replace h := h.2.2.1 hq
            clear hq
            refine a_sub (ls1 := [(0, Value.ref (ad b)), (1, Value.ref (ad q1)), (2, vI p2), (3, Value.ref (ad q3)), (5, vI x2)]) [0, 1, 2, 3, 5] rfl ?_
            exact hjj106  h
          · replace h := h.2.2.2 hq
            clear hq
            refine a_aload_n (pc := 94) a 0 dX2_addGroup_94 rfl rfl ?_
            refine a_iconst (pc := 95) a dX2_addGroup_95 ?_
            refine a_iconst (pc := 96) a dX2_addGroup_96 ?_
            refine a_iload_n (pc := 97) a 2 dX2_addGroup_97 rfl rfl ?_
            refine a_iconst (pc := 98) a dX2_addGroup_98 ?_
            refine a_iconst (pc := 99) a dX2_addGroup_99 ?_
            refine a_iload (pc := 100) a 6 dX2_addGroup_100 rfl ?_
            refine a_cvv (pc := 102) a (As := [vI 2, vI (-1), vI p2, vI (-1), vI (-1), vI x3]) (rest := []) tb vc2 (fun sz => c_X2_add hinj hl0 tb h sz) (cwV 6 hts (gl_V (GL_11 _ (by decide +kernel)) (GL_11 _ (by decide +kernel)) (GL_11 _ (by decide +kernel)) (GL_3 _ (by decide +kernel)) (GL_11 _ (by decide +kernel))) rfl rfl rfl (by decide +kernel) ⟨Nat.le_of_ble_eq_true rfl, Nat.le_of_ble_eq_true rfl⟩) rfl rfl (Nat.le_of_ble_eq_true rfl) ⟨Nat.le_of_ble_eq_true rfl, Nat.le_of_ble_eq_true rfl⟩ dX2_addGroup_102 ?_
            clear h
            intro s6 h
            exact e_v (pc := 105) a hr dX2_addGroup_105 h
  · replace h := h.2.2 hq
    clear hq
    refine a_aload_n (pc := 19) a 1 dX2_addGroup_19 rfl rfl ?_
    refine a_getR (pc := 20) a 7 7 rfl tq1 vc3 w2 w6 (by decide) (by decide) 7 (q := (q1 + 7)) rfl rfl dX2_addGroup_20 ?_
    refine a_iload (pc := 23) a 7 dX2_addGroup_23 rfl ?_
    refine a_iald (pc := 25) a (tw hinj w7) (by decide) h.1 dX2_addGroup_25 ?_
    replace h := h.2
    refine a_iload_n (pc := 26) a 2 dX2_addGroup_26 rfl rfl ?_
    refine a_icmp_ne (pc := 27) a h.1 h.2.1 dX2_addGroup_27 (tgt := 65) (by decide) (fun hq => ?_) (fun hq => ?_)
    · replace h := h.2.2.1 hq
      clear hq
      refine a_iinc (pc := 65) a (ls1 := [(7, vI (x4 + 1)), (0, Value.ref (ad b)), (1, Value.ref (ad q1)), (2, vI p2), (3, Value.ref (ad q3)), (4, vI x1), (5, vI x2), (6, vI x3)]) 7 dX2_addGroup_65 rfl (by decide) rfl ?_
      refine a_goto (pc := 68) a dX2_addGroup_68 (tgt := 12) (by decide) ?_
      refine a_sub (ls1 := [(0, Value.ref (ad b)), (1, Value.ref (ad q1)), (2, vI p2), (3, Value.ref (ad q3)), (4, vI x1), (5, vI x2), (6, vI x3), (7, vI (x4 + 1))]) [1, 2, 3, 4, 5, 6, 7, 0] rfl ?_
      exact hag12 x1 x2 x3 (x4 + 1) h
    · replace h := h.2.2.2 hq
      clear hq
      refine a_iinc (pc := 30) a (ls1 := [(4, vI (x1 + 1)), (0, Value.ref (ad b)), (1, Value.ref (ad q1)), (2, vI p2), (3, Value.ref (ad q3)), (5, vI x2), (6, vI x3), (7, vI x4)]) 4 dX2_addGroup_30 rfl (by decide) rfl ?_
      refine a_iload (pc := 33) a 5 dX2_addGroup_33 rfl ?_
      refine a_aload_n (pc := 35) a 4 dX2_addGroup_35 rfl rfl ?_
      refine a_getR (pc := 36) a 2 2 rfl tq3 vc4 w11 w10 (by decide) (by decide) 3 (q := (q3 + 3)) rfl rfl dX2_addGroup_36 ?_
      refine a_iload (pc := 39) a 7 dX2_addGroup_39 rfl ?_
      refine a_iald (pc := 41) a (tw hinj w12) (by decide) h.1 dX2_addGroup_41 ?_
      replace h := h.2
      refine g_wj1 50 0 0 (fun x14 => [(0, Value.ref (ad b)), (1, Value.ref (ad q1)), (2, vI p2), (3, Value.ref (ad q3)), (4, vI (x1 + 1)), (6, vI x3), (7, vI x4)]) (fun x14 => [vI x14, vI x2]) h ?_ ?_
      · clear h
        intro x14 h
        refine a_iadd (pc := 50) a dX2_addGroup_50 ?_
        refine a_nm (fun x15 hx => ?_)
        replace h := h x15 hx
        clear hx
        refine a_istore (pc := 51) a (ls1 := [(5, vI x15), (0, Value.ref (ad b)), (1, Value.ref (ad q1)), (2, vI p2), (3, Value.ref (ad q3)), (4, vI (x1 + 1)), (6, vI x3), (7, vI x4)]) dX2_addGroup_51 (by decide) rfl ?_
        refine a_iload (pc := 53) a 6 dX2_addGroup_53 rfl ?_
        refine a_aload_n (pc := 55) a 4 dX2_addGroup_55 rfl rfl ?_
        refine a_getR (pc := 56) a 0 0 rfl tq3 vc4 w11 w13 (by decide) (by decide) 1 (q := (q3 + 1)) rfl rfl dX2_addGroup_56 ?_
        refine a_iload (pc := 59) a 7 dX2_addGroup_59 rfl ?_
        refine a_iald (pc := 61) a (tw hinj w14) (by decide) h.1 dX2_addGroup_61 ?_
        replace h := h.2
        refine a_iadd (pc := 62) a dX2_addGroup_62 ?_
        refine a_nm (fun x16 hx => ?_)
        replace h := h x16 hx
        clear hx
        refine a_istore (pc := 63) a (ls1 := [(6, vI x16), (5, vI x15), (0, Value.ref (ad b)), (1, Value.ref (ad q1)), (2, vI p2), (3, Value.ref (ad q3)), (4, vI (x1 + 1)), (7, vI x4)]) dX2_addGroup_63 (by decide) rfl ?_
        refine a_iinc (pc := 65) a (ls1 := [(7, vI (x4 + 1)), (6, vI x16), (5, vI x15), (0, Value.ref (ad b)), (1, Value.ref (ad q1)), (2, vI p2), (3, Value.ref (ad q3)), (4, vI (x1 + 1))]) 7 dX2_addGroup_65 rfl (by decide) rfl ?_
        refine a_goto (pc := 68) a dX2_addGroup_68 (tgt := 12) (by decide) ?_
        refine a_sub (ls1 := [(0, Value.ref (ad b)), (1, Value.ref (ad q1)), (2, vI p2), (3, Value.ref (ad q3)), (4, vI (x1 + 1)), (5, vI x15), (6, vI x16), (7, vI (x4 + 1))]) [3, 4, 5, 6, 7, 2, 1, 0] rfl ?_
        exact hag12 (x1 + 1) x15 x16 (x4 + 1) h
      · clear h
        intro jj50 hjj50 h
        refine a_if_le (pc := 42) a h.1 dX2_addGroup_42 (tgt := 49) (by decide) (fun hq => ?_) (fun hq => ?_)
        · replace h := h.2.1 hq
          clear hq
          refine a_iconst (pc := 49) a dX2_addGroup_49 ?_
          refine a_sub (ls1 := [(0, Value.ref (ad b)), (1, Value.ref (ad q1)), (2, vI p2), (3, Value.ref (ad q3)), (4, vI (x1 + 1)), (6, vI x3), (7, vI x4)]) [1, 2, 3, 4, 0, 6, 7] rfl ?_
          exact hjj50 0 h
        · replace h := h.2.2 hq
          clear hq
          refine a_iconst (pc := 45) a dX2_addGroup_45 ?_
          refine a_goto (pc := 46) a dX2_addGroup_46 (tgt := 50) (by decide) ?_
          refine a_sub (ls1 := [(0, Value.ref (ad b)), (1, Value.ref (ad q1)), (2, vI p2), (3, Value.ref (ad q3)), (4, vI (x1 + 1)), (6, vI x3), (7, vI x4)]) [1, 2, 3, 4, 0, 6, 7] rfl ?_
          exact hjj50 1 h

set_option maxRecDepth 100000 in
set_option maxHeartbeats 4000000 in
theorem c_X2_compose {l : Launch} {D : va_G} {X : XI} {ad : Nat → Nat} (hinj : adI ad) (hl0 : l.stackTraces = false) {b : Nat} {q1 : Nat} {q2 : Nat} (tb : tyc b (6, 0)) (tq1 : tyc q1 (7, 0)) (tq2 : tyc q2 (8, 0)) {σ : St} {K : St → Prop} (h : f_X2_compose b q1 q2 σ K) (sz : Nat) : Met l yX2_compose (WW (.code yX2_compose cX2_compose 6 none)) { frames := 3, cells := 0, slots := 0, locals := 78 } (va_Pc [Value.ref (ad b), Value.ref (ad q1), Value.ref (ad q2)] (WD D X ad σ sz)) (QV D X ad sz K) 0 0 (AA ad sz) := by
  refine a_start (cc := cX2_compose) (maxL := 6) (ret := none) (own := RX2) [Value.ref (ad b), Value.ref (ad q1), Value.ref (ad q2)] (by decide) rfl rfl (Nat.le_of_ble_eq_true rfl) hinj hl0 ?_
  intro p e s m below meth c a hr hsz
  subst hsz
  have hts := a.1.2.2.2.2
  have w1 := hts (Cond.fieldLink RX2 43 "SightLegend$Lines" "size" "I") (List.mem_cons_of_mem _ (GL_9 _ (by decide +kernel)))
  have w2 : ∀ w ∈ u_ws RX2 TX2 14, w ∈ WW (.code yX2_compose cX2_compose 6 none) := fun w h => List.mem_cons_of_mem _ (inlX2 w h)
  have w3 := hts (Cond.fieldLink RX2 51 "SightLegend$Lines" "orderSize" "I") (List.mem_cons_of_mem _ (GL_10 _ (by decide +kernel)))
  have w4 := hts (Cond.fieldLink RX2 36 "SightLegend$Lines" "order" "[I") (List.mem_cons_of_mem _ (GL_4 _ (by decide +kernel)))
  have w5 : tyc (b + 9) (0, 12) := ty_of (d := 9) (t1 := (0, 12)) (by decide +kernel) rfl tb
  have w6 := hts (Cond.fieldLink RX2 54 "SightLegend$MapState" "group" "[I") (List.mem_cons_of_mem _ (GL_10 _ (by decide +kernel)))
  have w7 : ∀ w ∈ u_ws RX3 TX3 13, w ∈ WW (.code yX2_compose cX2_compose 6 none) := fun w h => List.mem_cons_of_mem _ (inlX3 w h)
  have w8 : tyc (q1 + 7) (0, 12) := ty_of (d := 7) (t1 := (0, 12)) (by decide +kernel) rfl tq1
  have w9 := hts (Cond.fieldLink RX2 39 "SightLegend$Lines" "groupDone" "[Z") (List.mem_cons_of_mem _ (GL_4 _ (by decide +kernel)))
  have w10 : tyc (b + 10) (1, 5) := ty_of (d := 10) (t1 := (1, 5)) (by decide +kernel) rfl tb
  unfold f_X2_compose at h
  refine a_sub (ls1 := [(0, Value.ref (ad b)), (1, Value.ref (ad q1)), (2, Value.ref (ad q2))]) [0, 1, 2] rfl ?_
  refine a_aload_n (pc := 0) a 0 dX2_compose_0 rfl rfl ?_
  refine a_iconst (pc := 1) a dX2_compose_1 ?_
  refine a_putI (pc := 2) a 0 0 rfl tb vc2 w2 w1 (by decide) (by decide) tyX2 tyX2_ok nmX2 rfl rfl (by decide +kernel) dX2_compose_2 ?_
  refine a_nmS (fun s1 hx => ?_)
  replace h := h s1 hx
  clear hx
  refine a_aload_n (pc := 5) a 0 dX2_compose_5 rfl rfl ?_
  refine a_aload_n (pc := 6) a 1 dX2_compose_6 rfl rfl ?_
  refine a_aload_n (pc := 7) a 2 dX2_compose_7 rfl rfl ?_
  refine a_cvv (pc := 8) a (As := [Value.ref (ad q1), Value.ref (ad q2)]) (rest := []) tb vc2 (fun sz => c_X2_orderKinds hinj hl0 tb tq1 tq2 h sz) (cwV 2 hts (gl_V (GL_10 _ (by decide +kernel)) (GL_10 _ (by decide +kernel)) (GL_10 _ (by decide +kernel)) (GL_3 _ (by decide +kernel)) (GL_10 _ (by decide +kernel))) rfl rfl rfl (by decide +kernel) ⟨Nat.le_of_ble_eq_true rfl, Nat.le_of_ble_eq_true rfl⟩) rfl rfl (Nat.le_of_ble_eq_true rfl) ⟨Nat.le_of_ble_eq_true rfl, Nat.le_of_ble_eq_true rfl⟩ dX2_compose_8 ?_
  clear h
  intro s2 h
  refine a_iconst (pc := 11) a dX2_compose_11 ?_
  refine a_istore_n (pc := 12) a (ls1 := [(3, vI 0), (0, Value.ref (ad b)), (1, Value.ref (ad q1)), (2, Value.ref (ad q2))]) dX2_compose_12 rfl (by decide) rfl ?_
  refine a_sub (ls1 := [(0, Value.ref (ad b)), (1, Value.ref (ad q1)), (2, Value.ref (ad q2)), (3, vI 0)]) [1, 2, 3, 0] rfl ?_
  refine g_wl1s (fun x3 => [(0, Value.ref (ad b)), (1, Value.ref (ad q1)), (2, Value.ref (ad q2)), (3, vI x3)]) h ?_
  clear h
  intro x3 s4 ag13 hag13 h
  refine a_iload_n (pc := 13) a 3 dX2_compose_13 rfl rfl ?_
  refine a_iconst (pc := 14) a dX2_compose_14 ?_
  refine a_icmp_ge (pc := 15) a h.1 ⟨by decide, by decide⟩ dX2_compose_15 (tgt := 31) (by decide) (fun hq => ?_) (fun hq => ?_)
  · replace h := h.2.1 hq
    clear hq
    refine a_iconst (pc := 31) a dX2_compose_31 ?_
    refine a_istore_n (pc := 32) a (ls1 := [(3, vI 0), (0, Value.ref (ad b)), (1, Value.ref (ad q1)), (2, Value.ref (ad q2))]) dX2_compose_32 rfl (by decide) rfl ?_
    refine a_sub (ls1 := [(0, Value.ref (ad b)), (1, Value.ref (ad q1)), (2, Value.ref (ad q2)), (3, vI 0)]) [1, 2, 3, 0] rfl ?_
    refine g_wl1s (fun x5 => [(0, Value.ref (ad b)), (1, Value.ref (ad q1)), (2, Value.ref (ad q2)), (3, vI x5)]) h ?_
    clear h
    intro x5 s6 ag33 hag33 h
    refine a_iload_n (pc := 33) a 3 dX2_compose_33 rfl rfl ?_
    refine a_aload_n (pc := 34) a 0 dX2_compose_34 rfl rfl ?_
    refine a_getI (pc := 35) a 12 12 rfl tb vc2 w2 w3 (by decide) (by decide) rfl dX2_compose_35 ?_
    refine a_icmp_ge (pc := 38) a h.1 h.2.1 dX2_compose_38 (tgt := 112) (by decide) (fun hq => ?_) (fun hq => ?_)
    · replace h := h.2.2.1 hq
      clear hq
      exact e_v (pc := 112) a hr dX2_compose_112 h
    · replace h := h.2.2.2 hq
      clear hq
      refine a_aload_n (pc := 41) a 0 dX2_compose_41 rfl rfl ?_
      refine a_getR (pc := 42) a 11 11 rfl tb vc2 w2 w4 (by decide) (by decide) 9 (q := (b + 9)) rfl rfl dX2_compose_42 ?_
      refine a_iload_n (pc := 45) a 3 dX2_compose_45 rfl rfl ?_
      refine a_iald (pc := 46) a (tw hinj w5) (by decide) h.1 dX2_compose_46 ?_
      replace h := h.2
      refine a_nm (fun x7 hx => ?_)
      replace h := h x7 hx
      clear hx
      refine a_istore (pc := 47) a (ls1 := [(4, vI x7), (0, Value.ref (ad b)), (1, Value.ref (ad q1)), (2, Value.ref (ad q2)), (3, vI x5)]) dX2_compose_47 (by decide) rfl ?_
      refine a_aload_n (pc := 49) a 2 dX2_compose_49 rfl rfl ?_
      refine a_getR (pc := 50) a 7 7 rfl tq1 vc3 w7 w6 (by decide) (by decide) 7 (q := (q1 + 7)) rfl rfl dX2_compose_50 ?_
      refine a_iload (pc := 53) a 0 dX2_compose_53 rfl ?_
      refine a_iald (pc := 55) a (tw hinj w8) (by decide) h.1 dX2_compose_55 ?_
      replace h := h.2
      refine a_nm (fun x8 hx => ?_)
      replace h := h x8 hx
      clear hx
      refine a_istore (pc := 56) a (ls1 := [(5, vI x8), (4, vI x7), (0, Value.ref (ad b)), (1, Value.ref (ad q1)), (2, Value.ref (ad q2)), (3, vI x5)]) dX2_compose_56 (by decide) rfl ?_
      refine a_iload (pc := 58) a 0 dX2_compose_58 rfl ?_
      refine g_wj0 69 0 0 [(0, Value.ref (ad b)), (1, Value.ref (ad q1)), (2, Value.ref (ad q2)), (3, vI x5), (4, vI x7)] [] h ?_ ?_
      · clear h
        intro  h
        refine a_aload_n (pc := 69) a 0 dX2_compose_69 rfl rfl ?_
        refine a_iload (pc := 70) a 4 dX2_compose_70 rfl ?_
        refine a_iconst (pc := 72) a dX2_compose_72 ?_
        refine a_aload_n (pc := 73) a 2 dX2_compose_73 rfl rfl ?_
        refine a_cvv (pc := 74) a (As := [vI x7, vI (-1), Value.ref (ad q2)]) (rest := []) tb vc2 (fun sz => c_X2_addKindLines hinj hl0 tb tq2 h sz) (cwV 3 hts (gl_V (GL_11 _ (by decide +kernel)) (GL_11 _ (by decide +kernel)) (GL_11 _ (by decide +kernel)) (GL_3 _ (by decide +kernel)) (GL_11 _ (by decide +kernel))) rfl rfl rfl (by decide +kernel) ⟨Nat.le_of_ble_eq_true rfl, Nat.le_of_ble_eq_true rfl⟩) rfl rfl (Nat.le_of_ble_eq_true rfl) ⟨Nat.le_of_ble_eq_true rfl, Nat.le_of_ble_eq_true rfl⟩ dX2_compose_74 ?_
        clear h
        intro s12 h
        refine a_goto (pc := 77) a dX2_compose_77 (tgt := 106) (by decide) ?_
        refine a_iinc (pc := 106) a (ls1 := [(3, vI (x5 + 1)), (0, Value.ref (ad b)), (1, Value.ref (ad q1)), (2, Value.ref (ad q2)), (4, vI x7)]) 3 dX2_compose_106 rfl (by decide) rfl ?_
        refine a_goto (pc := 109) a dX2_compose_109 (tgt := 33) (by decide) ?_
        refine a_sub (ls1 := [(0, Value.ref (ad b)), (1, Value.ref (ad q1)), (2, Value.ref (ad q2)), (3, vI (x5 + 1))]) [1, 2, 3, 0] rfl ?_
        exact hag33 (x5 + 1) s12 h
      · clear h
        intro jj69 hjj69 h
        refine a_if_lt (pc := 60) a h.1 dX2_compose_60 (tgt := 69) (by decide) (fun hq => ?_) (fun hq => ?_)
        · replace h := h.2.1 hq
          clear hq
          refine a_sub (ls1 := [(0, Value.ref (ad b)), (1, Value.ref (ad q1)), (2, Value.ref (ad q2)), (3, vI x5), (4, vI x7)]) [2, 3, 4, 5, 1] rfl ?_
          refine a_wid 0 0 (by omega) (by omega) ?_
          exact hjj69  h
        · replace h := h.2.2 hq
          clear hq
          refine a_iload (pc := 63) a 0 dX2_compose_63 rfl ?_
          refine a_iconst (pc := 65) a dX2_compose_65 ?_
          refine a_icmp_lt (pc := 66) a h.1 ⟨by decide, by decide⟩ dX2_compose_66 (tgt := 80) (by decide) (fun hq => ?_) (fun hq => ?_)
          · replace h := h.2.1 hq
            clear hq
            refine a_aload_n (pc := 80) a 2 dX2_compose_80 rfl rfl ?_
            refine a_getR (pc := 81) a 13 13 rfl tb vc2 w2 w9 (by decide) (by decide) 10 (q := (b + 10)) rfl rfl dX2_compose_81 ?_
            refine a_iload (pc := 84) a 0 dX2_compose_84 rfl ?_
            refine a_zald (pc := 86) a (tw hinj w10) (by decide) h.1 dX2_compose_86 ?_
            replace h := h.2
            refine a_if_ne (pc := 87) a h.1 dX2_compose_87 (tgt := 106) (by decide) (fun hq => ?_) (fun hq => ?_)
            · replace h := h.2.1 hq
              clear hq
              refine a_iinc (pc := 106) a (ls1 := [(3, vI (x5 + 1)), (5, vI x8), (4, vI x7), (0, Value.ref (ad b)), (1, Value.ref (ad q1)), (2, Value.ref (ad q2))]) 5 dX2_compose_106 rfl (by decide) rfl ?_
              refine a_goto (pc := 109) a dX2_compose_109 (tgt := 33) (by decide) ?_
              refine a_sub (ls1 := [(0, Value.ref (ad b)), (1, Value.ref (ad q1)), (2, Value.ref (ad q2)), (3, vI (x5 + 1))]) [3, 4, 5, 0] rfl ?_
              exact hag33 (x5 + 1) s6 h
            · replace h := h.2.2 hq
              clear hq
              refine a_aload_n (pc := 90) a 2 dX2_compose_90 rfl rfl ?_
              refine a_getR (pc := 91) a 13 13 rfl tb vc2 w2 w9 (by decide) (by decide) 10 (q := (b + 10)) rfl rfl dX2_compose_91 ?_
              refine a_iload (pc := 94) a 0 dX2_compose_94 rfl ?_
              refine a_iconst (pc := 96) a dX2_compose_96 ?_
              refine a_zast (pc := 97) a (tw hinj w10) (by decide) h.1 (by decide) dX2_compose_97 ?_
              replace h := h.2
              refine a_nmS (fun s10 hx => ?_)
              replace h := h s10 hx
              clear hx
              refine a_aload_n (pc := 98) a 2 dX2_compose_98 rfl rfl ?_
              refine a_aload_n (pc := 99) a 3 dX2_compose_99 rfl rfl ?_
              refine a_iload (pc := 100) a 0 dX2_compose_100 rfl ?_
              refine a_aload_n (pc := 102) a 4 dX2_compose_102 rfl rfl ?_
              refine a_cvv (pc := 103) a (As := [Value.ref (ad q1), vI x8, Value.ref (ad q2)]) (rest := []) tb vc2 (fun sz => c_X2_addGroup hinj hl0 tb tq1 tq2 h sz) (cwV 3 hts (gl_V (GL_11 _ (by decide +kernel)) (GL_11 _ (by decide +kernel)) (GL_11 _ (by decide +kernel)) (GL_3 _ (by decide +kernel)) (GL_11 _ (by decide +kernel))) rfl rfl rfl (by decide +kernel) ⟨Nat.le_of_ble_eq_true rfl, Nat.le_of_ble_eq_true rfl⟩) rfl rfl (Nat.le_of_ble_eq_true rfl) ⟨Nat.le_of_ble_eq_true rfl, Nat.le_of_ble_eq_true rfl⟩ dX2_compose_103 ?_
              clear h
              intro s11 h
              refine a_iinc (pc := 106) a (ls1 := [(3, vI (x5 + 1)), (5, vI x8), (4, vI x7), (0, Value.ref (ad b)), (1, Value.ref (ad q1)), (2, Value.ref (ad q2))]) 5 dX2_compose_106 rfl (by decide) rfl ?_
              refine a_goto (pc := 109) a dX2_compose_109 (tgt := 33) (by decide) ?_
              refine a_sub (ls1 := [(0, Value.ref (ad b)), (1, Value.ref (ad q1)), (2, Value.ref (ad q2)), (3, vI (x5 + 1))]) [3, 4, 5, 0] rfl ?_
              exact hag33 (x5 + 1) s11 h
          · replace h := h.2.2 hq
            clear hq
            refine a_sub (ls1 := [(0, Value.ref (ad b)), (1, Value.ref (ad q1)), (2, Value.ref (ad q2)), (3, vI x5), (4, vI x7)]) [2, 3, 4, 5, 1] rfl ?_
            refine a_wid 0 0 (by omega) (by omega) ?_
            exact hjj69  h
  · replace h := h.2.2 hq
    clear hq
    refine a_aload_n (pc := 18) a 0 dX2_compose_18 rfl rfl ?_
    refine a_getR (pc := 19) a 13 13 rfl tb vc2 w2 w9 (by decide) (by decide) 10 (q := (b + 10)) rfl rfl dX2_compose_19 ?_
    refine a_iload_n (pc := 22) a 3 dX2_compose_22 rfl rfl ?_
    refine a_iconst (pc := 23) a dX2_compose_23 ?_
    refine a_zast (pc := 24) a (tw hinj w10) (by decide) h.1 (by decide) dX2_compose_24 ?_
    replace h := h.2
    refine a_nmS (fun s13 hx => ?_)
    replace h := h s13 hx
    clear hx
    refine a_iinc (pc := 25) a (ls1 := [(3, vI (x3 + 1)), (0, Value.ref (ad b)), (1, Value.ref (ad q1)), (2, Value.ref (ad q2))]) 3 dX2_compose_25 rfl (by decide) rfl ?_
    refine a_goto (pc := 28) a dX2_compose_28 (tgt := 13) (by decide) ?_
    refine a_sub (ls1 := [(0, Value.ref (ad b)), (1, Value.ref (ad q1)), (2, Value.ref (ad q2)), (3, vI (x3 + 1))]) [1, 2, 3, 0] rfl ?_
    exact hag13 (x3 + 1) s13 h

set_option maxRecDepth 100000 in
set_option maxHeartbeats 4000000 in
theorem c_X2_layOut {l : Launch} {D : va_G} {X : XI} {ad : Nat → Nat} (hinj : adI ad) (hl0 : l.stackTraces = false) {b : Nat} {p1 : Int} (tb : tyc b (6, 0)) {σ : St} {K : St → Prop} (h : f_X2_layOut b p1 σ K) (sz : Nat) : Met l yX2_layOut (WW (.code yX2_layOut cX2_layOut 7 none)) { frames := 1, cells := 0, slots := 0, locals := 24 } (va_Pc [Value.ref (ad b), vI p1] (WD D X ad σ sz)) (QV D X ad sz K) 0 0 (AA ad sz) := by
  refine a_start (cc := cX2_layOut) (maxL := 7) (ret := none) (own := RX2) [Value.ref (ad b), vI p1] (by decide) rfl rfl (Nat.le_of_ble_eq_true rfl) hinj hl0 ?_
  intro p e s m below meth c a hr hsz
  subst hsz
  have hts := a.1.2.2.2.2
  have w1 := hts (Cond.fieldLink RX2 43 "SightLegend$Lines" "size" "I") (List.mem_cons_of_mem _ (GL_9 _ (by decide +kernel)))
  have w2 : ∀ w ∈ u_ws RX2 TX2 14, w ∈ WW (.code yX2_layOut cX2_layOut 7 none) := fun w h => List.mem_cons_of_mem _ (inlX2 w h)
  have w3 := hts (Cond.fieldLink RX2 85 "SightLegend$Lines" "tallest" "I") (List.mem_cons_of_mem _ (GL_11 _ (by decide +kernel)))
  have w4 := hts (Cond.fieldLink RX2 94 "SightLegend$Lines" "usedColumns" "I") (List.mem_cons_of_mem _ (GL_11 _ (by decide +kernel)))
  have w5 := hts (Cond.fieldLink RX2 9 "SightLegend$Lines" "type" "[I") (List.mem_cons_of_mem _ (GL_4 _ (by decide +kernel)))
  have w6 : tyc (b + 1) (0, 77) := ty_of (d := 1) (t1 := (0, 77)) (by decide +kernel) rfl tb
  have w7 := hts (Cond.fieldLink RX2 30 "SightLegend$Lines" "column" "[I") (List.mem_cons_of_mem _ (GL_4 _ (by decide +kernel)))
  have w8 : tyc (b + 7) (0, 77) := ty_of (d := 7) (t1 := (0, 77)) (by decide +kernel) rfl tb
  have w9 := hts (Cond.fieldLink RX2 33 "SightLegend$Lines" "place" "[I") (List.mem_cons_of_mem _ (GL_4 _ (by decide +kernel)))
  have w10 : tyc (b + 8) (0, 77) := ty_of (d := 8) (t1 := (0, 77)) (by decide +kernel) rfl tb
  have w11 := hts (Cond.methodLink RX2 88 Lib.Math.max.name) (List.mem_cons_of_mem _ (GL_11 _ (by decide +kernel)))
  have w12 := hts (Cond.static Lib.Math.max.name) (List.mem_cons_of_mem _ (GL_9 _ (by decide +kernel)))
  have w13 := hts (Cond.initialized "java/lang/Math") (List.mem_cons_of_mem _ (GL_9 _ (by decide +kernel)))
  have w14 := hts (Cond.code Lib.Math.max.name Lib.Math.max.code 2 (some .int)) (List.mem_cons_of_mem _ (GL_9 _ (by decide +kernel)))
  unfold f_X2_layOut at h
  refine a_sub (ls1 := [(0, Value.ref (ad b)), (1, vI p1)]) [0, 1] rfl ?_
  refine a_iload_n (pc := 0) a 1 dX2_layOut_0 rfl rfl ?_
  refine g_wj1 21 0 0 (fun x2 => [(0, Value.ref (ad b)), (1, vI p1)]) (fun x2 => [vI x2]) h ?_ ?_
  · clear h
    intro x2 h
    refine a_istore_n (pc := 21) a (ls1 := [(2, vI x2), (0, Value.ref (ad b)), (1, vI p1)]) dX2_layOut_21 rfl (by decide) rfl ?_
    refine a_iconst (pc := 22) a dX2_layOut_22 ?_
    refine a_istore_n (pc := 23) a (ls1 := [(3, vI 0), (2, vI x2), (0, Value.ref (ad b)), (1, vI p1)]) dX2_layOut_23 rfl (by decide) rfl ?_
    refine a_iconst (pc := 24) a dX2_layOut_24 ?_
    refine a_istore (pc := 25) a (ls1 := [(4, vI 0), (3, vI 0), (2, vI x2), (0, Value.ref (ad b)), (1, vI p1)]) dX2_layOut_25 (by decide) rfl ?_
    refine a_aload_n (pc := 27) a 3 dX2_layOut_27 rfl rfl ?_
    refine a_iconst (pc := 28) a dX2_layOut_28 ?_
    refine a_putI (pc := 29) a 10 10 rfl tb vc2 w2 w3 (by decide) (by decide) tyX2 tyX2_ok nmX2 rfl rfl (by decide +kernel) dX2_layOut_29 ?_
    refine a_nmS (fun s3 hx => ?_)
    replace h := h s3 hx
    clear hx
    refine a_iconst (pc := 32) a dX2_layOut_32 ?_
    refine a_istore (pc := 33) a (ls1 := [(5, vI 0), (4, vI 0), (3, vI 0), (2, vI x2), (0, Value.ref (ad b)), (1, vI p1)]) dX2_layOut_33 (by decide) rfl ?_
    refine a_sub (ls1 := [(0, Value.ref (ad b)), (1, vI p1), (2, vI x2), (3, vI 0), (4, vI 0), (5, vI 0)]) [4, 5, 3, 2, 1, 0] rfl ?_
    refine g_wl3s (fun x4 x5 x6 => [(0, Value.ref (ad b)), (1, vI p1), (2, vI x2), (3, vI x4), (4, vI x5), (5, vI x6)]) h ?_
    clear h
    intro x4 x5 x6 s7 ag35 hag35 h
    refine a_iload (pc := 35) a 5 dX2_layOut_35 rfl ?_
    refine a_aload_n (pc := 37) a 0 dX2_layOut_37 rfl rfl ?_
    refine a_getI (pc := 38) a 0 0 rfl tb vc2 w2 w1 (by decide) (by decide) rfl dX2_layOut_38 ?_
    refine a_icmp_ge (pc := 41) a h.1 h.2.1 dX2_layOut_41 (tgt := 139) (by decide) (fun hq => ?_) (fun hq => ?_)
    · replace h := h.2.2.1 hq
      clear hq
      refine a_aload_n (pc := 139) a 0 dX2_layOut_139 rfl rfl ?_
      refine a_aload_n (pc := 140) a 0 dX2_layOut_140 rfl rfl ?_
      refine a_getI (pc := 141) a 0 0 rfl tb vc2 w2 w1 (by decide) (by decide) rfl dX2_layOut_141 ?_
      refine a_if_le (pc := 144) a h.1 dX2_layOut_144 (tgt := 153) (by decide) (fun hq => ?_) (fun hq => ?_)
      · replace h := h.2.1 hq
        clear hq
        refine a_iconst (pc := 153) a dX2_layOut_153 ?_
        refine a_putI (pc := 154) a 9 9 rfl tb vc2 w2 w4 (by decide) (by decide) tyX2 tyX2_ok nmX2 rfl rfl (by decide +kernel) dX2_layOut_154 ?_
        refine a_nmS (fun s8 hx => ?_)
        replace h := h s8 hx
        clear hx
        exact e_v (pc := 157) a hr dX2_layOut_157 h
      · replace h := h.2.2 hq
        clear hq
        refine a_iload_n (pc := 147) a 3 dX2_layOut_147 rfl rfl ?_
        refine a_iconst (pc := 148) a dX2_layOut_148 ?_
        refine a_iadd (pc := 149) a dX2_layOut_149 ?_
        refine a_goto (pc := 150) a dX2_layOut_150 (tgt := 154) (by decide) ?_
        refine a_putI (pc := 154) a 9 9 rfl tb vc2 w2 w4 (by decide) (by decide) tyX2 tyX2_ok nmX2 rfl rfl (by decide +kernel) dX2_layOut_154 ?_
        refine a_nmS (fun s9 hx => ?_)
        replace h := h s9 hx
        clear hx
        exact e_v (pc := 157) a hr dX2_layOut_157 h
    · replace h := h.2.2.2 hq
      clear hq
      refine a_iload (pc := 44) a 4 dX2_layOut_44 rfl ?_
      refine a_iload_n (pc := 46) a 2 dX2_layOut_46 rfl rfl ?_
      refine g_wj1 80 0 0 (fun x13 => [(0, Value.ref (ad b)), (1, vI p1), (2, vI x2), (3, vI x4), (4, vI x5), (5, vI x6)]) (fun x13 => [vI x13]) h ?_ ?_
      · clear h
        intro x13 h
        refine a_istore (pc := 80) a (ls1 := [(6, vI x13), (0, Value.ref (ad b)), (1, vI p1), (2, vI x2), (3, vI x4), (4, vI x5), (5, vI x6)]) dX2_layOut_80 (by decide) rfl ?_
        refine a_iload (pc := 82) a 0 dX2_layOut_82 rfl ?_
        refine g_wj2 100 0 0 (fun x15 x16 => [(0, Value.ref (ad b)), (1, vI p1), (2, vI x2), (3, vI x15), (4, vI x16), (5, vI x6)]) (fun x15 x16 => []) h ?_ ?_
        · clear h
          intro x15 x16 h
          refine a_aload_n (pc := 100) a 0 dX2_layOut_100 rfl rfl ?_
          refine a_getR (pc := 101) a 7 7 rfl tb vc2 w2 w7 (by decide) (by decide) 7 (q := (b + 7)) rfl rfl dX2_layOut_101 ?_
          refine a_iload (pc := 104) a 5 dX2_layOut_104 rfl ?_
          refine a_iload_n (pc := 106) a 3 dX2_layOut_106 rfl rfl ?_
          refine a_iast (pc := 107) a (tw hinj w8) (by decide) h.1 dX2_layOut_107 ?_
          replace h := h.2
          refine a_nmS (fun s17 hx => ?_)
          replace h := h s17 hx
          clear hx
          refine a_aload_n (pc := 108) a 0 dX2_layOut_108 rfl rfl ?_
          refine a_getR (pc := 109) a 8 8 rfl tb vc2 w2 w9 (by decide) (by decide) 8 (q := (b + 8)) rfl rfl dX2_layOut_109 ?_
          refine a_iload (pc := 112) a 5 dX2_layOut_112 rfl ?_
          refine a_iload (pc := 114) a 4 dX2_layOut_114 rfl ?_
          refine a_iast (pc := 116) a (tw hinj w10) (by decide) h.1 dX2_layOut_116 ?_
          replace h := h.2
          refine a_nmS (fun s18 hx => ?_)
          replace h := h s18 hx
          clear hx
          refine a_iinc (pc := 117) a (ls1 := [(4, vI (x16 + 1)), (0, Value.ref (ad b)), (1, vI p1), (2, vI x2), (3, vI x15), (5, vI x6)]) 4 dX2_layOut_117 rfl (by decide) rfl ?_
          refine a_aload_n (pc := 120) a 1 dX2_layOut_120 rfl rfl ?_
          refine a_aload_n (pc := 121) a 1 dX2_layOut_121 rfl rfl ?_
          refine a_getI (pc := 122) a 10 10 rfl tb vc2 w2 w3 (by decide) (by decide) rfl dX2_layOut_122 ?_
          refine a_iload (pc := 125) a 0 dX2_layOut_125 rfl ?_
          refine a_max (pc := 127) a h.1 h.2.1 w11 w12 w13 w14 (Nat.le_of_ble_eq_true rfl) (Nat.le_of_ble_eq_true rfl) (Nat.le_of_ble_eq_true rfl) (Nat.le_of_ble_eq_true rfl) dX2_layOut_127 ?_
          replace h := h.2.2
          refine a_putI (pc := 130) a 10 10 rfl tb vc2 w2 w3 (by decide) (by decide) tyX2 tyX2_ok nmX2 rfl rfl (by decide +kernel) dX2_layOut_130 ?_
          refine a_nmS (fun s19 hx => ?_)
          replace h := h s19 hx
          clear hx
          refine a_iinc (pc := 133) a (ls1 := [(5, vI (x6 + 1)), (4, vI (x16 + 1)), (0, Value.ref (ad b)), (1, vI p1), (2, vI x2), (3, vI x15)]) 5 dX2_layOut_133 rfl (by decide) rfl ?_
          refine a_goto (pc := 136) a dX2_layOut_136 (tgt := 35) (by decide) ?_
          refine a_sub (ls1 := [(0, Value.ref (ad b)), (1, vI p1), (2, vI x2), (3, vI x15), (4, vI (x16 + 1)), (5, vI (x6 + 1))]) [2, 3, 4, 5, 1, 0] rfl ?_
          exact hag35 x15 (x16 + 1) (x6 + 1) s19 h
        · clear h
          intro jj100 hjj100 h
          refine a_if_eq (pc := 84) a h.1 dX2_layOut_84 (tgt := 100) (by decide) (fun hq => ?_) (fun hq => ?_)
          · replace h := h.2.1 hq
            clear hq
            refine a_sub (ls1 := [(0, Value.ref (ad b)), (1, vI p1), (2, vI x2), (3, vI x4), (4, vI x5), (5, vI x6)]) [1, 2, 3, 4, 5, 6] rfl ?_
            exact hjj100 x4 x5 h
          · replace h := h.2.2 hq
            clear hq
            refine a_iload_n (pc := 87) a 4 dX2_layOut_87 rfl rfl ?_
            refine a_iload_n (pc := 88) a 2 dX2_layOut_88 rfl rfl ?_
            refine a_iconst (pc := 89) a dX2_layOut_89 ?_
            refine a_isub (pc := 90) a dX2_layOut_90 ?_
            refine a_icmp_ge (pc := 91) a h.1 h.2.1 dX2_layOut_91 (tgt := 100) (by decide) (fun hq => ?_) (fun hq => ?_)
            · replace h := h.2.2.1 hq
              clear hq
              refine a_sub (ls1 := [(0, Value.ref (ad b)), (1, vI p1), (2, vI x2), (3, vI x4), (4, vI x5), (5, vI x6)]) [1, 2, 3, 4, 5, 6] rfl ?_
              exact hjj100 x4 x5 h
            · replace h := h.2.2.2 hq
              clear hq
              refine a_iinc (pc := 94) a (ls1 := [(3, vI (x4 + 1)), (6, vI x13), (0, Value.ref (ad b)), (1, vI p1), (2, vI x2), (4, vI x5), (5, vI x6)]) 4 dX2_layOut_94 rfl (by decide) rfl ?_
              refine a_iconst (pc := 97) a dX2_layOut_97 ?_
              refine a_istore (pc := 98) a (ls1 := [(4, vI 0), (3, vI (x4 + 1)), (6, vI x13), (0, Value.ref (ad b)), (1, vI p1), (2, vI x2), (5, vI x6)]) dX2_layOut_98 (by decide) rfl ?_
              refine a_sub (ls1 := [(0, Value.ref (ad b)), (1, vI p1), (2, vI x2), (3, vI (x4 + 1)), (4, vI 0), (5, vI x6)]) [3, 4, 5, 1, 0, 6] rfl ?_
              exact hjj100 (x4 + 1) 0 h
      · clear h
        intro jj80 hjj80 h
        refine g_wj0 75 0 0 [(0, Value.ref (ad b)), (1, vI p1), (2, vI x2), (3, vI x4), (4, vI x5), (5, vI x6)] [] h ?_ ?_
        · clear h
          intro  h
          refine a_iconst (pc := 75) a dX2_layOut_75 ?_
          refine a_goto (pc := 76) a dX2_layOut_76 (tgt := 80) (by decide) ?_
          exact hjj80 1 h
        · clear h
          intro jj75 hjj75 h
          refine a_icmp_ge (pc := 47) a h.1 h.2.1 dX2_layOut_47 (tgt := 75) (by decide) (fun hq => ?_) (fun hq => ?_)
          · replace h := h.2.2.1 hq
            clear hq
            exact hjj75  h
          · replace h := h.2.2.2 hq
            clear hq
            refine a_aload_n (pc := 50) a 0 dX2_layOut_50 rfl rfl ?_
            refine a_getR (pc := 51) a 1 1 rfl tb vc2 w2 w5 (by decide) (by decide) 1 (q := (b + 1)) rfl rfl dX2_layOut_51 ?_
            refine a_iload (pc := 54) a 5 dX2_layOut_54 rfl ?_
            refine a_iald (pc := 56) a (tw hinj w6) (by decide) h.1 dX2_layOut_56 ?_
            replace h := h.2
            refine a_iconst (pc := 57) a dX2_layOut_57 ?_
            refine g_wj0 79 0 0 [(0, Value.ref (ad b)), (1, vI p1), (2, vI x2), (3, vI x4), (4, vI x5), (5, vI x6)] [] h ?_ ?_
            · clear h
              intro  h
              refine a_iconst (pc := 79) a dX2_layOut_79 ?_
              exact hjj80 0 h
            · clear h
              intro jj79 hjj79 h
              refine a_icmp_ne (pc := 58) a h.1 ⟨by decide, by decide⟩ dX2_layOut_58 (tgt := 79) (by decide) (fun hq => ?_) (fun hq => ?_)
              · replace h := h.2.1 hq
                clear hq
                exact hjj79  h
              · replace h := h.2.2 hq
                clear hq
                refine a_iload (pc := 61) a 4 dX2_layOut_61 rfl ?_
                refine a_iconst (pc := 63) a dX2_layOut_63 ?_
                refine a_icmp_lt (pc := 64) a h.1 ⟨by decide, by decide⟩ dX2_layOut_64 (tgt := 79) (by decide) (fun hq => ?_) (fun hq => ?_)
                · replace h := h.2.1 hq
                  clear hq
                  exact hjj79  h
                · replace h := h.2.2 hq
                  clear hq
                  refine a_iload (pc := 67) a 4 dX2_layOut_67 rfl ?_
                  refine a_iload_n (pc := 69) a 2 dX2_layOut_69 rfl rfl ?_
                  refine a_iconst (pc := 70) a dX2_layOut_70 ?_
                  refine a_isub (pc := 71) a dX2_layOut_71 ?_
                  refine a_icmp_lt (pc := 72) a h.1 h.2.1 dX2_layOut_72 (tgt := 79) (by decide) (fun hq => ?_) (fun hq => ?_)
                  · replace h := h.2.2.1 hq
                    clear hq
                    exact hjj79  h
                  · replace h := h.2.2.2 hq
                    clear hq
                    exact hjj75  h
  · clear h
    intro jj21 hjj21 h
    refine a_if_le (pc := 1) a h.1 dX2_layOut_1 (tgt := 17) (by decide) (fun hq => ?_) (fun hq => ?_)
    · replace h := h.2.1 hq
      clear hq
      refine a_aload_n (pc := 17) a 0 dX2_layOut_17 rfl rfl ?_
      refine a_getI (pc := 18) a 0 0 rfl tb vc2 w2 w1 (by decide) (by decide) rfl dX2_layOut_18 ?_
      exact hjj21 (σ b 0) h
    · replace h := h.2.2 hq
      clear hq
      refine a_aload_n (pc := 4) a 0 dX2_layOut_4 rfl rfl ?_
      refine a_getI (pc := 5) a 0 0 rfl tb vc2 w2 w1 (by decide) (by decide) rfl dX2_layOut_5 ?_
      refine a_iload_n (pc := 8) a 1 dX2_layOut_8 rfl rfl ?_
      refine a_iadd (pc := 9) a dX2_layOut_9 ?_
      refine a_iconst (pc := 10) a dX2_layOut_10 ?_
      refine a_isub (pc := 11) a dX2_layOut_11 ?_
      refine a_iload_n (pc := 12) a 1 dX2_layOut_12 rfl rfl ?_
      refine a_idiv (pc := 13) a dX2_layOut_13 h.1 h.2.1 ?_
      replace h := h.2.2
      refine a_goto (pc := 14) a dX2_layOut_14 (tgt := 21) (by decide) ?_
      exact hjj21 ((((σ b 0) + p1) - 1) / p1) h

set_option maxRecDepth 100000 in
set_option maxHeartbeats 4000000 in
theorem c_X2_isSameAs {l : Launch} {D : va_G} {X : XI} {ad : Nat → Nat} (hinj : adI ad) (hl0 : l.stackTraces = false) {b : Nat} {q1 : Nat} (tb : tyc b (6, 0)) (tq1 : tyc q1 (6, 0)) {σ : St} {K : Int → Prop} (h : f_X2_isSameAs b q1 σ K) (sz : Nat) : Met l yX2_isSameAs (WW (.code yX2_isSameAs cX2_isSameAs 3 (some .boolean))) { frames := 0, cells := 0, slots := 0, locals := 0 } (va_Pc [Value.ref (ad b), Value.ref (ad q1)] (WD D X ad σ sz)) (QI D X ad sz (fun r τ => τ = σ ∧ K r)) 0 0 (AA ad sz) := by
  refine a_start (cc := cX2_isSameAs) (maxL := 3) (ret := (some .boolean)) (own := RX2) [Value.ref (ad b), Value.ref (ad q1)] (by decide) rfl rfl (Nat.le_of_ble_eq_true rfl) hinj hl0 ?_
  intro p e s m below meth c a hr hsz
  subst hsz
  have hts := a.1.2.2.2.2
  have w1 := hts (Cond.fieldLink RX2 43 "SightLegend$Lines" "size" "I") (List.mem_cons_of_mem _ (GL_9 _ (by decide +kernel)))
  have w2 : ∀ w ∈ u_ws RX2 TX2 14, w ∈ WW (.code yX2_isSameAs cX2_isSameAs 3 (some .boolean)) := fun w h => List.mem_cons_of_mem _ (inlX2 w h)
  have w3 := hts (Cond.fieldLink RX2 9 "SightLegend$Lines" "type" "[I") (List.mem_cons_of_mem _ (GL_4 _ (by decide +kernel)))
  have w4 : tyc (b + 1) (0, 77) := ty_of (d := 1) (t1 := (0, 77)) (by decide +kernel) rfl tb
  have w5 : tyc (q1 + 1) (0, 77) := ty_of (d := 1) (t1 := (0, 77)) (by decide +kernel) rfl tq1
  have w6 := hts (Cond.fieldLink RX2 15 "SightLegend$Lines" "kind" "[I") (List.mem_cons_of_mem _ (GL_4 _ (by decide +kernel)))
  have w7 : tyc (b + 2) (0, 77) := ty_of (d := 2) (t1 := (0, 77)) (by decide +kernel) rfl tb
  have w8 : tyc (q1 + 2) (0, 77) := ty_of (d := 2) (t1 := (0, 77)) (by decide +kernel) rfl tq1
  have w9 := hts (Cond.fieldLink RX2 18 "SightLegend$Lines" "group" "[I") (List.mem_cons_of_mem _ (GL_4 _ (by decide +kernel)))
  have w10 : tyc (b + 3) (0, 77) := ty_of (d := 3) (t1 := (0, 77)) (by decide +kernel) rfl tb
  have w11 : tyc (q1 + 3) (0, 77) := ty_of (d := 3) (t1 := (0, 77)) (by decide +kernel) rfl tq1
  have w12 := hts (Cond.fieldLink RX2 21 "SightLegend$Lines" "first" "[I") (List.mem_cons_of_mem _ (GL_4 _ (by decide +kernel)))
  have w13 : tyc (b + 4) (0, 77) := ty_of (d := 4) (t1 := (0, 77)) (by decide +kernel) rfl tb
  have w14 : tyc (q1 + 4) (0, 77) := ty_of (d := 4) (t1 := (0, 77)) (by decide +kernel) rfl tq1
  have w15 := hts (Cond.fieldLink RX2 24 "SightLegend$Lines" "last" "[I") (List.mem_cons_of_mem _ (GL_4 _ (by decide +kernel)))
  have w16 : tyc (b + 5) (0, 77) := ty_of (d := 5) (t1 := (0, 77)) (by decide +kernel) rfl tb
  have w17 : tyc (q1 + 5) (0, 77) := ty_of (d := 5) (t1 := (0, 77)) (by decide +kernel) rfl tq1
  unfold f_X2_isSameAs at h
  refine a_sub (ls1 := [(0, Value.ref (ad b)), (1, Value.ref (ad q1))]) [0, 1] rfl ?_
  refine a_aload_n (pc := 0) a 0 dX2_isSameAs_0 rfl rfl ?_
  refine a_getI (pc := 1) a 0 0 rfl tb vc2 w2 w1 (by decide) (by decide) rfl dX2_isSameAs_1 ?_
  refine a_aload_n (pc := 4) a 1 dX2_isSameAs_4 rfl rfl ?_
  refine a_getI (pc := 5) a 0 0 rfl tq1 vc2 w2 w1 (by decide) (by decide) rfl dX2_isSameAs_5 ?_
  refine a_icmp_eq (pc := 8) a h.1 h.2.1 dX2_isSameAs_8 (tgt := 13) (by decide) (fun hq => ?_) (fun hq => ?_)
  · replace h := h.2.2.1 hq
    clear hq
    refine a_iconst (pc := 13) a dX2_isSameAs_13 ?_
    refine a_istore_n (pc := 14) a (ls1 := [(2, vI 0), (0, Value.ref (ad b)), (1, Value.ref (ad q1))]) dX2_isSameAs_14 rfl (by decide) rfl ?_
    refine a_sub (ls1 := [(0, Value.ref (ad b)), (1, Value.ref (ad q1)), (2, vI 0)]) [1, 2, 0] rfl ?_
    refine g_wl1 (fun x1 => [(0, Value.ref (ad b)), (1, Value.ref (ad q1)), (2, vI x1)]) h ?_
    clear h
    intro x1 ag15 hag15 h
    refine a_iload_n (pc := 15) a 2 dX2_isSameAs_15 rfl rfl ?_
    refine a_aload_n (pc := 16) a 0 dX2_isSameAs_16 rfl rfl ?_
    refine a_getI (pc := 17) a 0 0 rfl tb vc2 w2 w1 (by decide) (by decide) rfl dX2_isSameAs_17 ?_
    refine a_icmp_ge (pc := 20) a h.1 h.2.1 dX2_isSameAs_20 (tgt := 106) (by decide) (fun hq => ?_) (fun hq => ?_)
    · replace h := h.2.2.1 hq
      clear hq
      refine a_iconst (pc := 106) a dX2_isSameAs_106 ?_
      exact e_z (pc := 107) a hr (by decide) dX2_isSameAs_107 ⟨rfl, h⟩
    · replace h := h.2.2.2 hq
      clear hq
      refine a_aload_n (pc := 23) a 0 dX2_isSameAs_23 rfl rfl ?_
      refine a_getR (pc := 24) a 1 1 rfl tb vc2 w2 w3 (by decide) (by decide) 1 (q := (b + 1)) rfl rfl dX2_isSameAs_24 ?_
      refine a_iload_n (pc := 27) a 2 dX2_isSameAs_27 rfl rfl ?_
      refine a_iald (pc := 28) a (tw hinj w4) (by decide) h.1 dX2_isSameAs_28 ?_
      replace h := h.2
      refine a_aload_n (pc := 29) a 1 dX2_isSameAs_29 rfl rfl ?_
      refine a_getR (pc := 30) a 1 1 rfl tq1 vc2 w2 w3 (by decide) (by decide) 1 (q := (q1 + 1)) rfl rfl dX2_isSameAs_30 ?_
      refine a_iload_n (pc := 33) a 2 dX2_isSameAs_33 rfl rfl ?_
      refine a_iald (pc := 34) a (tw hinj w5) (by decide) h.1 dX2_isSameAs_34 ?_
      replace h := h.2
      refine a_icmp_ne (pc := 35) a h.1 h.2.1 dX2_isSameAs_35 (tgt := 98) (by decide) (fun hq => ?_) (fun hq => ?_)
      · replace h := h.2.2.1 hq
        clear hq
        refine a_iconst (pc := 98) a dX2_isSameAs_98 ?_
        exact e_z (pc := 99) a hr (by decide) dX2_isSameAs_99 ⟨rfl, h⟩
      · replace h := h.2.2.2 hq
        clear hq
        refine a_aload_n (pc := 38) a 0 dX2_isSameAs_38 rfl rfl ?_
        refine a_getR (pc := 39) a 2 2 rfl tb vc2 w2 w6 (by decide) (by decide) 2 (q := (b + 2)) rfl rfl dX2_isSameAs_39 ?_
        refine a_iload_n (pc := 42) a 2 dX2_isSameAs_42 rfl rfl ?_
        refine a_iald (pc := 43) a (tw hinj w7) (by decide) h.1 dX2_isSameAs_43 ?_
        replace h := h.2
        refine a_aload_n (pc := 44) a 1 dX2_isSameAs_44 rfl rfl ?_
        refine a_getR (pc := 45) a 2 2 rfl tq1 vc2 w2 w6 (by decide) (by decide) 2 (q := (q1 + 2)) rfl rfl dX2_isSameAs_45 ?_
        refine a_iload_n (pc := 48) a 2 dX2_isSameAs_48 rfl rfl ?_
        refine a_iald (pc := 49) a (tw hinj w8) (by decide) h.1 dX2_isSameAs_49 ?_
        replace h := h.2
        refine a_icmp_ne (pc := 50) a h.1 h.2.1 dX2_isSameAs_50 (tgt := 98) (by decide) (fun hq => ?_) (fun hq => ?_)
        · replace h := h.2.2.1 hq
          clear hq
          refine a_iconst (pc := 98) a dX2_isSameAs_98 ?_
          exact e_z (pc := 99) a hr (by decide) dX2_isSameAs_99 ⟨rfl, h⟩
        · replace h := h.2.2.2 hq
          clear hq
          refine a_aload_n (pc := 53) a 0 dX2_isSameAs_53 rfl rfl ?_
          refine a_getR (pc := 54) a 3 3 rfl tb vc2 w2 w9 (by decide) (by decide) 3 (q := (b + 3)) rfl rfl dX2_isSameAs_54 ?_
          refine a_iload_n (pc := 57) a 2 dX2_isSameAs_57 rfl rfl ?_
          refine a_iald (pc := 58) a (tw hinj w10) (by decide) h.1 dX2_isSameAs_58 ?_
          replace h := h.2
          refine a_aload_n (pc := 59) a 1 dX2_isSameAs_59 rfl rfl ?_
          refine a_getR (pc := 60) a 3 3 rfl tq1 vc2 w2 w9 (by decide) (by decide) 3 (q := (q1 + 3)) rfl rfl dX2_isSameAs_60 ?_
          refine a_iload_n (pc := 63) a 2 dX2_isSameAs_63 rfl rfl ?_
          refine a_iald (pc := 64) a (tw hinj w11) (by decide) h.1 dX2_isSameAs_64 ?_
          replace h := h.2
          refine a_icmp_ne (pc := 65) a h.1 h.2.1 dX2_isSameAs_65 (tgt := 98) (by decide) (fun hq => ?_) (fun hq => ?_)
          · replace h := h.2.2.1 hq
            clear hq
            refine a_iconst (pc := 98) a dX2_isSameAs_98 ?_
            exact e_z (pc := 99) a hr (by decide) dX2_isSameAs_99 ⟨rfl, h⟩
          · replace h := h.2.2.2 hq
            clear hq
            refine a_aload_n (pc := 68) a 0 dX2_isSameAs_68 rfl rfl ?_
            refine a_getR (pc := 69) a 4 4 rfl tb vc2 w2 w12 (by decide) (by decide) 4 (q := (b + 4)) rfl rfl dX2_isSameAs_69 ?_
            refine a_iload_n (pc := 72) a 2 dX2_isSameAs_72 rfl rfl ?_
            refine a_iald (pc := 73) a (tw hinj w13) (by decide) h.1 dX2_isSameAs_73 ?_
            replace h := h.2
            refine a_aload_n (pc := 74) a 1 dX2_isSameAs_74 rfl rfl ?_
            refine a_getR (pc := 75) a 4 4 rfl tq1 vc2 w2 w12 (by decide) (by decide) 4 (q := (q1 + 4)) rfl rfl dX2_isSameAs_75 ?_
            refine a_iload_n (pc := 78) a 2 dX2_isSameAs_78 rfl rfl ?_
            refine a_iald (pc := 79) a (tw hinj w14) (by decide) h.1 dX2_isSameAs_79 ?_
            replace h := h.2
            refine a_icmp_ne (pc := 80) a h.1 h.2.1 dX2_isSameAs_80 (tgt := 98) (by decide) (fun hq => ?_) (fun hq => ?_)
            · replace h := h.2.2.1 hq
              clear hq
              refine a_iconst (pc := 98) a dX2_isSameAs_98 ?_
              exact e_z (pc := 99) a hr (by decide) dX2_isSameAs_99 ⟨rfl, h⟩
            · replace h := h.2.2.2 hq
              clear hq
              refine a_aload_n (pc := 83) a 0 dX2_isSameAs_83 rfl rfl ?_
              refine a_getR (pc := 84) a 5 5 rfl tb vc2 w2 w15 (by decide) (by decide) 5 (q := (b + 5)) rfl rfl dX2_isSameAs_84 ?_
              refine a_iload_n (pc := 87) a 2 dX2_isSameAs_87 rfl rfl ?_
              refine a_iald (pc := 88) a (tw hinj w16) (by decide) h.1 dX2_isSameAs_88 ?_
              replace h := h.2
              refine a_aload_n (pc := 89) a 1 dX2_isSameAs_89 rfl rfl ?_
              refine a_getR (pc := 90) a 5 5 rfl tq1 vc2 w2 w15 (by decide) (by decide) 5 (q := (q1 + 5)) rfl rfl dX2_isSameAs_90 ?_
              refine a_iload_n (pc := 93) a 2 dX2_isSameAs_93 rfl rfl ?_
              refine a_iald (pc := 94) a (tw hinj w17) (by decide) h.1 dX2_isSameAs_94 ?_
              replace h := h.2
              refine a_icmp_eq (pc := 95) a h.1 h.2.1 dX2_isSameAs_95 (tgt := 100) (by decide) (fun hq => ?_) (fun hq => ?_)
              · replace h := h.2.2.1 hq
                clear hq
                refine a_iinc (pc := 100) a (ls1 := [(2, vI (x1 + 1)), (0, Value.ref (ad b)), (1, Value.ref (ad q1))]) 2 dX2_isSameAs_100 rfl (by decide) rfl ?_
                refine a_goto (pc := 103) a dX2_isSameAs_103 (tgt := 15) (by decide) ?_
                refine a_sub (ls1 := [(0, Value.ref (ad b)), (1, Value.ref (ad q1)), (2, vI (x1 + 1))]) [1, 2, 0] rfl ?_
                exact hag15 (x1 + 1) h
              · replace h := h.2.2.2 hq
                clear hq
                refine a_iconst (pc := 98) a dX2_isSameAs_98 ?_
                exact e_z (pc := 99) a hr (by decide) dX2_isSameAs_99 ⟨rfl, h⟩
  · replace h := h.2.2.2 hq
    clear hq
    refine a_iconst (pc := 11) a dX2_isSameAs_11 ?_
    exact e_z (pc := 12) a hr (by decide) dX2_isSameAs_12 ⟨rfl, h⟩

set_option maxRecDepth 100000 in
set_option maxHeartbeats 4000000 in
theorem c_X2_countOfKind {l : Launch} {D : va_G} {X : XI} {ad : Nat → Nat} (hinj : adI ad) (hl0 : l.stackTraces = false) {b : Nat} {p1 : Int} (tb : tyc b (6, 0)) {σ : St} {K : Int → Prop} (h : f_X2_countOfKind b p1 σ K) (sz : Nat) : Met l yX2_countOfKind (WW (.code yX2_countOfKind cX2_countOfKind 4 (some .int))) { frames := 0, cells := 0, slots := 0, locals := 0 } (va_Pc [Value.ref (ad b), vI p1] (WD D X ad σ sz)) (QI D X ad sz (fun r τ => τ = σ ∧ K r)) 0 0 (AA ad sz) := by
  refine a_start (cc := cX2_countOfKind) (maxL := 4) (ret := (some .int)) (own := RX2) [Value.ref (ad b), vI p1] (by decide) rfl rfl (Nat.le_of_ble_eq_true rfl) hinj hl0 ?_
  intro p e s m below meth c a hr hsz
  subst hsz
  have hts := a.1.2.2.2.2
  have w1 := hts (Cond.fieldLink RX2 43 "SightLegend$Lines" "size" "I") (List.mem_cons_of_mem _ (GL_9 _ (by decide +kernel)))
  have w2 : ∀ w ∈ u_ws RX2 TX2 14, w ∈ WW (.code yX2_countOfKind cX2_countOfKind 4 (some .int)) := fun w h => List.mem_cons_of_mem _ (inlX2 w h)
  have w3 := hts (Cond.fieldLink RX2 9 "SightLegend$Lines" "type" "[I") (List.mem_cons_of_mem _ (GL_4 _ (by decide +kernel)))
  have w4 : tyc (b + 1) (0, 77) := ty_of (d := 1) (t1 := (0, 77)) (by decide +kernel) rfl tb
  have w5 := hts (Cond.fieldLink RX2 15 "SightLegend$Lines" "kind" "[I") (List.mem_cons_of_mem _ (GL_4 _ (by decide +kernel)))
  have w6 : tyc (b + 2) (0, 77) := ty_of (d := 2) (t1 := (0, 77)) (by decide +kernel) rfl tb
  unfold f_X2_countOfKind at h
  refine a_sub (ls1 := [(0, Value.ref (ad b)), (1, vI p1)]) [0, 1] rfl ?_
  refine a_iconst (pc := 0) a dX2_countOfKind_0 ?_
  refine a_istore_n (pc := 1) a (ls1 := [(2, vI 0), (0, Value.ref (ad b)), (1, vI p1)]) dX2_countOfKind_1 rfl (by decide) rfl ?_
  refine a_iconst (pc := 2) a dX2_countOfKind_2 ?_
  refine a_istore_n (pc := 3) a (ls1 := [(3, vI 0), (2, vI 0), (0, Value.ref (ad b)), (1, vI p1)]) dX2_countOfKind_3 rfl (by decide) rfl ?_
  refine a_sub (ls1 := [(0, Value.ref (ad b)), (1, vI p1), (2, vI 0), (3, vI 0)]) [2, 3, 1, 0] rfl ?_
  refine g_wl2 (fun x1 x2 => [(0, Value.ref (ad b)), (1, vI p1), (2, vI x1), (3, vI x2)]) h ?_
  clear h
  intro x1 x2 ag4 hag4 h
  refine a_iload_n (pc := 4) a 3 dX2_countOfKind_4 rfl rfl ?_
  refine a_aload_n (pc := 5) a 0 dX2_countOfKind_5 rfl rfl ?_
  refine a_getI (pc := 6) a 0 0 rfl tb vc2 w2 w1 (by decide) (by decide) rfl dX2_countOfKind_6 ?_
  refine a_icmp_ge (pc := 9) a h.1 h.2.1 dX2_countOfKind_9 (tgt := 40) (by decide) (fun hq => ?_) (fun hq => ?_)
  · replace h := h.2.2.1 hq
    clear hq
    refine a_iload_n (pc := 40) a 2 dX2_countOfKind_40 rfl rfl ?_
    exact e_i (pc := 41) a hr dX2_countOfKind_41 ⟨rfl, h⟩
  · replace h := h.2.2.2 hq
    clear hq
    refine a_aload_n (pc := 12) a 0 dX2_countOfKind_12 rfl rfl ?_
    refine a_getR (pc := 13) a 1 1 rfl tb vc2 w2 w3 (by decide) (by decide) 1 (q := (b + 1)) rfl rfl dX2_countOfKind_13 ?_
    refine a_iload_n (pc := 16) a 3 dX2_countOfKind_16 rfl rfl ?_
    refine a_iald (pc := 17) a (tw hinj w4) (by decide) h.1 dX2_countOfKind_17 ?_
    replace h := h.2
    refine a_if_ne (pc := 18) a h.1 dX2_countOfKind_18 (tgt := 34) (by decide) (fun hq => ?_) (fun hq => ?_)
    · replace h := h.2.1 hq
      clear hq
      refine a_iinc (pc := 34) a (ls1 := [(3, vI (x2 + 1)), (0, Value.ref (ad b)), (1, vI p1), (2, vI x1)]) 3 dX2_countOfKind_34 rfl (by decide) rfl ?_
      refine a_goto (pc := 37) a dX2_countOfKind_37 (tgt := 4) (by decide) ?_
      refine a_sub (ls1 := [(0, Value.ref (ad b)), (1, vI p1), (2, vI x1), (3, vI (x2 + 1))]) [1, 2, 3, 0] rfl ?_
      exact hag4 x1 (x2 + 1) h
    · replace h := h.2.2 hq
      clear hq
      refine a_aload_n (pc := 21) a 0 dX2_countOfKind_21 rfl rfl ?_
      refine a_getR (pc := 22) a 2 2 rfl tb vc2 w2 w5 (by decide) (by decide) 2 (q := (b + 2)) rfl rfl dX2_countOfKind_22 ?_
      refine a_iload_n (pc := 25) a 3 dX2_countOfKind_25 rfl rfl ?_
      refine a_iald (pc := 26) a (tw hinj w6) (by decide) h.1 dX2_countOfKind_26 ?_
      replace h := h.2
      refine a_iload_n (pc := 27) a 1 dX2_countOfKind_27 rfl rfl ?_
      refine a_icmp_ne (pc := 28) a h.1 h.2.1 dX2_countOfKind_28 (tgt := 34) (by decide) (fun hq => ?_) (fun hq => ?_)
      · replace h := h.2.2.1 hq
        clear hq
        refine a_iinc (pc := 34) a (ls1 := [(3, vI (x2 + 1)), (0, Value.ref (ad b)), (1, vI p1), (2, vI x1)]) 3 dX2_countOfKind_34 rfl (by decide) rfl ?_
        refine a_goto (pc := 37) a dX2_countOfKind_37 (tgt := 4) (by decide) ?_
        refine a_sub (ls1 := [(0, Value.ref (ad b)), (1, vI p1), (2, vI x1), (3, vI (x2 + 1))]) [1, 2, 3, 0] rfl ?_
        exact hag4 x1 (x2 + 1) h
      · replace h := h.2.2.2 hq
        clear hq
        refine a_iinc (pc := 31) a (ls1 := [(2, vI (x1 + 1)), (0, Value.ref (ad b)), (1, vI p1), (3, vI x2)]) 2 dX2_countOfKind_31 rfl (by decide) rfl ?_
        refine a_iinc (pc := 34) a (ls1 := [(3, vI (x2 + 1)), (2, vI (x1 + 1)), (0, Value.ref (ad b)), (1, vI p1)]) 3 dX2_countOfKind_34 rfl (by decide) rfl ?_
        refine a_goto (pc := 37) a dX2_countOfKind_37 (tgt := 4) (by decide) ?_
        refine a_sub (ls1 := [(0, Value.ref (ad b)), (1, vI p1), (2, vI (x1 + 1)), (3, vI (x2 + 1))]) [2, 3, 1, 0] rfl ?_
        exact hag4 (x1 + 1) (x2 + 1) h

set_option maxRecDepth 100000 in
set_option maxHeartbeats 4000000 in
theorem c_X2_fact {l : Launch} {D : va_G} {X : XI} {ad : Nat → Nat} (hinj : adI ad) (hl0 : l.stackTraces = false) {b : Nat} {p1 : Int} {p2 : Int} (tb : tyc b (6, 0)) {σ : St} {K : Int → Prop} (h : f_X2_fact b p1 p2 σ K) (sz : Nat) : Met l yX2_fact (WW (.code yX2_fact cX2_fact 3 (some .int))) { frames := 0, cells := 0, slots := 0, locals := 0 } (va_Pc [Value.ref (ad b), vI p1, vI p2] (WD D X ad σ sz)) (QI D X ad sz (fun r τ => τ = σ ∧ K r)) 0 0 (AA ad sz) := by
  refine a_start (cc := cX2_fact) (maxL := 3) (ret := (some .int)) (own := RX2) [Value.ref (ad b), vI p1, vI p2] (by decide) rfl rfl (Nat.le_of_ble_eq_true rfl) hinj hl0 ?_
  intro p e s m below meth c a hr hsz
  subst hsz
  have hts := a.1.2.2.2.2
  have w1 := hts (Cond.fieldLink RX2 43 "SightLegend$Lines" "size" "I") (List.mem_cons_of_mem _ (GL_9 _ (by decide +kernel)))
  have w2 : ∀ w ∈ u_ws RX2 TX2 14, w ∈ WW (.code yX2_fact cX2_fact 3 (some .int)) := fun w h => List.mem_cons_of_mem _ (inlX2 w h)
  have w3 := hts (Cond.fieldLink RX2 9 "SightLegend$Lines" "type" "[I") (List.mem_cons_of_mem _ (GL_4 _ (by decide +kernel)))
  have w4 : tyc (b + 1) (0, 77) := ty_of (d := 1) (t1 := (0, 77)) (by decide +kernel) rfl tb
  have w5 := hts (Cond.fieldLink RX2 15 "SightLegend$Lines" "kind" "[I") (List.mem_cons_of_mem _ (GL_4 _ (by decide +kernel)))
  have w6 : tyc (b + 2) (0, 77) := ty_of (d := 2) (t1 := (0, 77)) (by decide +kernel) rfl tb
  have w7 := hts (Cond.fieldLink RX2 18 "SightLegend$Lines" "group" "[I") (List.mem_cons_of_mem _ (GL_4 _ (by decide +kernel)))
  have w8 : tyc (b + 3) (0, 77) := ty_of (d := 3) (t1 := (0, 77)) (by decide +kernel) rfl tb
  have w9 := hts (Cond.fieldLink RX2 21 "SightLegend$Lines" "first" "[I") (List.mem_cons_of_mem _ (GL_4 _ (by decide +kernel)))
  have w10 : tyc (b + 4) (0, 77) := ty_of (d := 4) (t1 := (0, 77)) (by decide +kernel) rfl tb
  have w11 := hts (Cond.fieldLink RX2 24 "SightLegend$Lines" "last" "[I") (List.mem_cons_of_mem _ (GL_4 _ (by decide +kernel)))
  have w12 : tyc (b + 5) (0, 77) := ty_of (d := 5) (t1 := (0, 77)) (by decide +kernel) rfl tb
  have w13 := hts (Cond.fieldLink RX2 27 "SightLegend$Lines" "signs" "[I") (List.mem_cons_of_mem _ (GL_4 _ (by decide +kernel)))
  have w14 : tyc (b + 6) (0, 77) := ty_of (d := 6) (t1 := (0, 77)) (by decide +kernel) rfl tb
  have w15 := hts (Cond.fieldLink RX2 30 "SightLegend$Lines" "column" "[I") (List.mem_cons_of_mem _ (GL_4 _ (by decide +kernel)))
  have w16 : tyc (b + 7) (0, 77) := ty_of (d := 7) (t1 := (0, 77)) (by decide +kernel) rfl tb
  have w17 := hts (Cond.fieldLink RX2 33 "SightLegend$Lines" "place" "[I") (List.mem_cons_of_mem _ (GL_4 _ (by decide +kernel)))
  have w18 : tyc (b + 8) (0, 77) := ty_of (d := 8) (t1 := (0, 77)) (by decide +kernel) rfl tb
  unfold f_X2_fact at h
  refine a_sub (ls1 := [(0, Value.ref (ad b)), (1, vI p1), (2, vI p2)]) [0, 1, 2] rfl ?_
  refine a_iload_n (pc := 0) a 1 dX2_fact_0 rfl rfl ?_
  refine a_if_lt (pc := 1) a h.1 dX2_fact_1 (tgt := 12) (by decide) (fun hq => ?_) (fun hq => ?_)
  · replace h := h.2.1 hq
    clear hq
    refine a_iconst (pc := 12) a dX2_fact_12 ?_
    exact e_i (pc := 13) a hr dX2_fact_13 ⟨rfl, h⟩
  · replace h := h.2.2 hq
    clear hq
    refine a_iload_n (pc := 4) a 1 dX2_fact_4 rfl rfl ?_
    refine a_aload_n (pc := 5) a 0 dX2_fact_5 rfl rfl ?_
    refine a_getI (pc := 6) a 0 0 rfl tb vc2 w2 w1 (by decide) (by decide) rfl dX2_fact_6 ?_
    refine a_icmp_lt (pc := 9) a h.1 h.2.1 dX2_fact_9 (tgt := 14) (by decide) (fun hq => ?_) (fun hq => ?_)
    · replace h := h.2.2.1 hq
      clear hq
      refine a_iload_n (pc := 14) a 2 dX2_fact_14 rfl rfl ?_
      have hsw : p2 = 0 ∨ p2 = 1 ∨ p2 = 2 ∨ p2 = 3 ∨ p2 = 4 ∨ p2 = 5 ∨ p2 = 6 ∨ (p2 < 0 ∨ 6 < p2) := by omega
      rcases hsw with hq | hq | hq | hq | hq | hq | hq | hq
      · replace h := h.2.1 hq
        refine a_tsIn (pc := 15) a 0 hq ⟨by decide, by decide⟩ dX2_fact_15 (by decide) (by decide) rfl (tgt := 56) (by decide) ?_
        clear hq
        refine a_aload_n (pc := 56) a 0 dX2_fact_56 rfl rfl ?_
        refine a_getR (pc := 57) a 1 1 rfl tb vc2 w2 w3 (by decide) (by decide) 1 (q := (b + 1)) rfl rfl dX2_fact_57 ?_
        refine a_iload_n (pc := 60) a 1 dX2_fact_60 rfl rfl ?_
        refine a_iald (pc := 61) a (tw hinj w4) (by decide) h.1 dX2_fact_61 ?_
        replace h := h.2
        exact e_i (pc := 62) a hr dX2_fact_62 ⟨rfl, h⟩
      · replace h := h.2.2.1 hq
        refine a_tsIn (pc := 15) a 1 hq ⟨by decide, by decide⟩ dX2_fact_15 (by decide) (by decide) rfl (tgt := 63) (by decide) ?_
        clear hq
        refine a_aload_n (pc := 63) a 0 dX2_fact_63 rfl rfl ?_
        refine a_getR (pc := 64) a 2 2 rfl tb vc2 w2 w5 (by decide) (by decide) 2 (q := (b + 2)) rfl rfl dX2_fact_64 ?_
        refine a_iload_n (pc := 67) a 1 dX2_fact_67 rfl rfl ?_
        refine a_iald (pc := 68) a (tw hinj w6) (by decide) h.1 dX2_fact_68 ?_
        replace h := h.2
        exact e_i (pc := 69) a hr dX2_fact_69 ⟨rfl, h⟩
      · replace h := h.2.2.2.1 hq
        refine a_tsIn (pc := 15) a 2 hq ⟨by decide, by decide⟩ dX2_fact_15 (by decide) (by decide) rfl (tgt := 70) (by decide) ?_
        clear hq
        refine a_aload_n (pc := 70) a 0 dX2_fact_70 rfl rfl ?_
        refine a_getR (pc := 71) a 3 3 rfl tb vc2 w2 w7 (by decide) (by decide) 3 (q := (b + 3)) rfl rfl dX2_fact_71 ?_
        refine a_iload_n (pc := 74) a 1 dX2_fact_74 rfl rfl ?_
        refine a_iald (pc := 75) a (tw hinj w8) (by decide) h.1 dX2_fact_75 ?_
        replace h := h.2
        exact e_i (pc := 76) a hr dX2_fact_76 ⟨rfl, h⟩
      · replace h := h.2.2.2.2.1 hq
        refine a_tsIn (pc := 15) a 3 hq ⟨by decide, by decide⟩ dX2_fact_15 (by decide) (by decide) rfl (tgt := 77) (by decide) ?_
        clear hq
        refine a_aload_n (pc := 77) a 0 dX2_fact_77 rfl rfl ?_
        refine a_getR (pc := 78) a 4 4 rfl tb vc2 w2 w9 (by decide) (by decide) 4 (q := (b + 4)) rfl rfl dX2_fact_78 ?_
        refine a_iload_n (pc := 81) a 1 dX2_fact_81 rfl rfl ?_
        refine a_iald (pc := 82) a (tw hinj w10) (by decide) h.1 dX2_fact_82 ?_
        replace h := h.2
        exact e_i (pc := 83) a hr dX2_fact_83 ⟨rfl, h⟩
      · replace h := h.2.2.2.2.2.1 hq
        refine a_tsIn (pc := 15) a 4 hq ⟨by decide, by decide⟩ dX2_fact_15 (by decide) (by decide) rfl (tgt := 84) (by decide) ?_
        clear hq
        refine a_aload_n (pc := 84) a 0 dX2_fact_84 rfl rfl ?_
        refine a_getR (pc := 85) a 5 5 rfl tb vc2 w2 w11 (by decide) (by decide) 5 (q := (b + 5)) rfl rfl dX2_fact_85 ?_
        refine a_iload_n (pc := 88) a 1 dX2_fact_88 rfl rfl ?_
        refine a_iald (pc := 89) a (tw hinj w12) (by decide) h.1 dX2_fact_89 ?_
        replace h := h.2
        exact e_i (pc := 90) a hr dX2_fact_90 ⟨rfl, h⟩
      · replace h := h.2.2.2.2.2.2.1 hq
        refine a_tsIn (pc := 15) a 5 hq ⟨by decide, by decide⟩ dX2_fact_15 (by decide) (by decide) rfl (tgt := 91) (by decide) ?_
        clear hq
        refine a_aload_n (pc := 91) a 0 dX2_fact_91 rfl rfl ?_
        refine a_getR (pc := 92) a 6 6 rfl tb vc2 w2 w13 (by decide) (by decide) 6 (q := (b + 6)) rfl rfl dX2_fact_92 ?_
        refine a_iload_n (pc := 95) a 1 dX2_fact_95 rfl rfl ?_
        refine a_iald (pc := 96) a (tw hinj w14) (by decide) h.1 dX2_fact_96 ?_
        replace h := h.2
        exact e_i (pc := 97) a hr dX2_fact_97 ⟨rfl, h⟩
      · replace h := h.2.2.2.2.2.2.2.1 hq
        refine a_tsIn (pc := 15) a 6 hq ⟨by decide, by decide⟩ dX2_fact_15 (by decide) (by decide) rfl (tgt := 98) (by decide) ?_
        clear hq
        refine a_aload_n (pc := 98) a 0 dX2_fact_98 rfl rfl ?_
        refine a_getR (pc := 99) a 7 7 rfl tb vc2 w2 w15 (by decide) (by decide) 7 (q := (b + 7)) rfl rfl dX2_fact_99 ?_
        refine a_iload_n (pc := 102) a 1 dX2_fact_102 rfl rfl ?_
        refine a_iald (pc := 103) a (tw hinj w16) (by decide) h.1 dX2_fact_103 ?_
        replace h := h.2
        exact e_i (pc := 104) a hr dX2_fact_104 ⟨rfl, h⟩
      · have hr := h.1
        replace h := h.2.2.2.2.2.2.2.2 hq
        refine a_tsOut (pc := 15) a hr dX2_fact_15 hq (tgt := 105) (by decide) ?_
        clear hq hr
        refine a_aload_n (pc := 105) a 0 dX2_fact_105 rfl rfl ?_
        refine a_getR (pc := 106) a 8 8 rfl tb vc2 w2 w17 (by decide) (by decide) 8 (q := (b + 8)) rfl rfl dX2_fact_106 ?_
        refine a_iload_n (pc := 109) a 1 dX2_fact_109 rfl rfl ?_
        refine a_iald (pc := 110) a (tw hinj w18) (by decide) h.1 dX2_fact_110 ?_
        replace h := h.2
        exact e_i (pc := 111) a hr dX2_fact_111 ⟨rfl, h⟩
    · replace h := h.2.2.2 hq
      clear hq
      refine a_iconst (pc := 12) a dX2_fact_12 ?_
      exact e_i (pc := 13) a hr dX2_fact_13 ⟨rfl, h⟩
