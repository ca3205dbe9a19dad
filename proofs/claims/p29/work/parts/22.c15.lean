set_option maxRecDepth 100000 in
set_option maxHeartbeats 4000000 in
theorem c_X1_seeAllShown {l : Launch} {D : va_G} {X : XI} {ad : Nat → Nat} (hinj : adI ad) (hl0 : l.stackTraces = false) {b : Nat} {q1 : Nat} (tb : tyc b (5, 0)) (tq1 : tyc q1 (7, 0)) {σ : St} {K : St → Prop} (h : f_X1_seeAllShown b q1 σ K) (sz : Nat) : Met l yX1_seeAllShown (WW (.code yX1_seeAllShown cX1_seeAllShown 3 none)) { frames := 2, cells := 0, slots := 0, locals := 44 } (va_Pc [Value.ref (ad b), Value.ref (ad q1)] (WD D X ad σ sz)) (QV D X ad sz K) 0 0 (AA ad sz) := by
  refine a_start (cc := cX1_seeAllShown) (maxL := 3) (ret := none) (own := RX1) [Value.ref (ad b), Value.ref (ad q1)] (by decide) rfl rfl (Nat.le_of_ble_eq_true rfl) hinj hl0 ?_
  intro p e s m below meth c a hr hsz
  subst hsz
  have hts := a.1.2.2.2.2
  have w1 := hts (Cond.fieldLink RX1 64 "SightLegend$Legend" "shownCount" "I") (List.mem_cons_of_mem _ (GL_7 _ (by decide +kernel)))
  have w2 : ∀ w ∈ u_ws RX1 TX1 12, w ∈ WW (.code yX1_seeAllShown cX1_seeAllShown 3 none) := fun w h => List.mem_cons_of_mem _ (inlX1 w h)
  have w3 := hts (Cond.fieldLink RX1 9 "SightLegend$Legend" "shown" "[Z") (List.mem_cons_of_mem _ (GL_2 _ (by decide +kernel)))
  have w4 : tyc (b + 1) (1, 40) := ty_of (d := 1) (t1 := (1, 40)) (by decide +kernel) rfl tb
  have w5 := hts (Cond.fieldLink RX1 67 "SightLegend$MapState" "signCount" "I") (List.mem_cons_of_mem _ (GL_7 _ (by decide +kernel)))
  have w6 : ∀ w ∈ u_ws RX3 TX3 13, w ∈ WW (.code yX1_seeAllShown cX1_seeAllShown 3 none) := fun w h => List.mem_cons_of_mem _ (inlX3 w h)
  have w7 := hts (Cond.fieldLink RX1 15 "SightLegend$Legend" "inSight" "[Z") (List.mem_cons_of_mem _ (GL_2 _ (by decide +kernel)))
  have w8 : tyc (b + 2) (1, 40) := ty_of (d := 2) (t1 := (1, 40)) (by decide +kernel) rfl tb
  unfold f_X1_seeAllShown at h
  refine a_sub (ls1 := [(0, Value.ref (ad b)), (1, Value.ref (ad q1))]) [0, 1] rfl ?_
  refine a_aload_n (pc := 0) a 0 dX1_seeAllShown_0 rfl rfl ?_
  refine a_iconst (pc := 1) a dX1_seeAllShown_1 ?_
  refine a_putI (pc := 2) a 3 3 rfl tb vc1 w2 w1 (by decide) (by decide) tyX1 tyX1_ok nmX1 rfl rfl (by decide +kernel) dX1_seeAllShown_2 ?_
  refine a_nmS (fun s1 hx => ?_)
  replace h := h s1 hx
  clear hx
  refine a_iconst (pc := 5) a dX1_seeAllShown_5 ?_
  refine a_istore_n (pc := 6) a (ls1 := [(2, vI 0), (0, Value.ref (ad b)), (1, Value.ref (ad q1))]) dX1_seeAllShown_6 rfl (by decide) rfl ?_
  refine a_sub (ls1 := [(0, Value.ref (ad b)), (1, Value.ref (ad q1)), (2, vI 0)]) [1, 2, 0] rfl ?_
  refine g_wl1s (fun x2 => [(0, Value.ref (ad b)), (1, Value.ref (ad q1)), (2, vI x2)]) h ?_
  clear h
  intro x2 s3 ag7 hag7 h
  refine a_iload_n (pc := 7) a 2 dX1_seeAllShown_7 rfl rfl ?_
  refine a_bipush (pc := 8) a dX1_seeAllShown_8 (by decide) ?_
  refine a_icmp_ge (pc := 10) a h.1 ⟨by decide, by decide⟩ dX1_seeAllShown_10 (tgt := 81) (by decide) (fun hq => ?_) (fun hq => ?_)
  · replace h := h.2.1 hq
    clear hq
    exact e_v (pc := 81) a hr dX1_seeAllShown_81 h
  · replace h := h.2.2 hq
    clear hq
    refine a_aload_n (pc := 13) a 0 dX1_seeAllShown_13 rfl rfl ?_
    refine a_getR (pc := 14) a 1 1 rfl tb vc1 w2 w3 (by decide) (by decide) 1 (q := (b + 1)) rfl rfl dX1_seeAllShown_14 ?_
    refine a_iload_n (pc := 17) a 2 dX1_seeAllShown_17 rfl rfl ?_
    refine a_iload_n (pc := 18) a 2 dX1_seeAllShown_18 rfl rfl ?_
    refine a_aload_n (pc := 19) a 1 dX1_seeAllShown_19 rfl rfl ?_
    refine a_getI (pc := 20) a 5 5 rfl tq1 vc3 w6 w5 (by decide) (by decide) rfl dX1_seeAllShown_20 ?_
    refine g_wj1 39 0 0 (fun x7 => [(0, Value.ref (ad b)), (1, Value.ref (ad q1)), (2, vI x2)]) (fun x7 => [vI x7, vI x2, Value.ref (ad (b + 1))]) h ?_ ?_
    · clear h
      intro x7 h
      refine a_zast (pc := 39) a (tw hinj w4) (by decide) h.1 h.2.1 dX1_seeAllShown_39 ?_
      replace h := h.2.2
      refine a_nmS (fun s8 hx => ?_)
      replace h := h s8 hx
      clear hx
      refine a_aload_n (pc := 40) a 0 dX1_seeAllShown_40 rfl rfl ?_
      refine a_getR (pc := 41) a 2 2 rfl tb vc1 w2 w7 (by decide) (by decide) 2 (q := (b + 2)) rfl rfl dX1_seeAllShown_41 ?_
      refine a_iload_n (pc := 44) a 2 dX1_seeAllShown_44 rfl rfl ?_
      refine a_aload_n (pc := 45) a 0 dX1_seeAllShown_45 rfl rfl ?_
      refine a_getR (pc := 46) a 1 1 rfl tb vc1 w2 w3 (by decide) (by decide) 1 (q := (b + 1)) rfl rfl dX1_seeAllShown_46 ?_
      refine a_iload_n (pc := 49) a 2 dX1_seeAllShown_49 rfl rfl ?_
      refine a_zald (pc := 50) a (tw hinj w4) (by decide) h.1 dX1_seeAllShown_50 ?_
      replace h := h.2
      refine a_zast (pc := 51) a (tw hinj w8) (by decide) h.1 h.2.1 dX1_seeAllShown_51 ?_
      replace h := h.2.2
      refine a_nmS (fun s9 hx => ?_)
      replace h := h s9 hx
      clear hx
      refine a_aload_n (pc := 52) a 0 dX1_seeAllShown_52 rfl rfl ?_
      refine a_dup (pc := 53) a rfl dX1_seeAllShown_53 ?_
      refine a_getI (pc := 54) a 3 3 rfl tb vc1 w2 w1 (by decide) (by decide) rfl dX1_seeAllShown_54 ?_
      refine a_aload_n (pc := 57) a 0 dX1_seeAllShown_57 rfl rfl ?_
      refine a_getR (pc := 58) a 1 1 rfl tb vc1 w2 w3 (by decide) (by decide) 1 (q := (b + 1)) rfl rfl dX1_seeAllShown_58 ?_
      refine a_iload_n (pc := 61) a 2 dX1_seeAllShown_61 rfl rfl ?_
      refine a_zald (pc := 62) a (tw hinj w4) (by decide) h.1 dX1_seeAllShown_62 ?_
      replace h := h.2
      refine a_if_eq (pc := 63) a h.1 dX1_seeAllShown_63 (tgt := 70) (by decide) (fun hq => ?_) (fun hq => ?_)
      · replace h := h.2.1 hq
        clear hq
        refine a_iconst (pc := 70) a dX1_seeAllShown_70 ?_
        refine a_iadd (pc := 71) a dX1_seeAllShown_71 ?_
        refine a_putI (pc := 72) a 3 3 rfl tb vc1 w2 w1 (by decide) (by decide) tyX1 tyX1_ok nmX1 rfl rfl (by decide +kernel) dX1_seeAllShown_72 ?_
        refine a_nmS (fun s10 hx => ?_)
        replace h := h s10 hx
        clear hx
        refine a_iinc (pc := 75) a (ls1 := [(2, vI (x2 + 1)), (0, Value.ref (ad b)), (1, Value.ref (ad q1))]) 2 dX1_seeAllShown_75 rfl (by decide) rfl ?_
        refine a_goto (pc := 78) a dX1_seeAllShown_78 (tgt := 7) (by decide) ?_
        refine a_sub (ls1 := [(0, Value.ref (ad b)), (1, Value.ref (ad q1)), (2, vI (x2 + 1))]) [1, 2, 0] rfl ?_
        exact hag7 (x2 + 1) s10 h
      · replace h := h.2.2 hq
        clear hq
        refine a_iconst (pc := 66) a dX1_seeAllShown_66 ?_
        refine a_goto (pc := 67) a dX1_seeAllShown_67 (tgt := 71) (by decide) ?_
        refine a_iadd (pc := 71) a dX1_seeAllShown_71 ?_
        refine a_putI (pc := 72) a 3 3 rfl tb vc1 w2 w1 (by decide) (by decide) tyX1 tyX1_ok nmX1 rfl rfl (by decide +kernel) dX1_seeAllShown_72 ?_
        refine a_nmS (fun s11 hx => ?_)
        replace h := h s11 hx
        clear hx
        refine a_iinc (pc := 75) a (ls1 := [(2, vI (x2 + 1)), (0, Value.ref (ad b)), (1, Value.ref (ad q1))]) 2 dX1_seeAllShown_75 rfl (by decide) rfl ?_
        refine a_goto (pc := 78) a dX1_seeAllShown_78 (tgt := 7) (by decide) ?_
        refine a_sub (ls1 := [(0, Value.ref (ad b)), (1, Value.ref (ad q1)), (2, vI (x2 + 1))]) [1, 2, 0] rfl ?_
        exact hag7 (x2 + 1) s11 h
    · clear h
      intro jj39 hjj39 h
      refine g_wj0 38 0 0 [(0, Value.ref (ad b)), (1, Value.ref (ad q1)), (2, vI x2)] [vI x2, Value.ref (ad (b + 1))] h ?_ ?_
      · clear h
        intro  h
        refine a_iconst (pc := 38) a dX1_seeAllShown_38 ?_
        exact hjj39 0 h
      · clear h
        intro jj38 hjj38 h
        refine a_icmp_ge (pc := 23) a h.1 h.2.1 dX1_seeAllShown_23 (tgt := 38) (by decide) (fun hq => ?_) (fun hq => ?_)
        · replace h := h.2.2.1 hq
          clear hq
          exact hjj38  h
        · replace h := h.2.2.2 hq
          clear hq
          refine a_aload_n (pc := 26) a 1 dX1_seeAllShown_26 rfl rfl ?_
          refine a_iload_n (pc := 27) a 2 dX1_seeAllShown_27 rfl rfl ?_
          refine a_cvi (pc := 28) a (As := [vI x2]) (rest := [vI x2, Value.ref (ad (b + 1))]) tq1 vc3 (fun sz => c_X3_isShown hinj hl0 tq1 h sz) (cwV 1 hts (gl_V (GL_7 _ (by decide +kernel)) (GL_7 _ (by decide +kernel)) (GL_7 _ (by decide +kernel)) (GL_1 _ (by decide +kernel)) (GL_8 _ (by decide +kernel))) rfl rfl rfl (by decide +kernel) ⟨Nat.le_of_ble_eq_true rfl, Nat.le_of_ble_eq_true rfl⟩) rfl rfl (Nat.le_of_ble_eq_true rfl) ⟨Nat.le_of_ble_eq_true rfl, Nat.le_of_ble_eq_true rfl⟩ dX1_seeAllShown_28 ?_
          rintro x6 s9 ⟨hs9, h9⟩
          subst s9
          replace h := h9
          clear h9
          refine a_if_eq (pc := 31) a h.1 dX1_seeAllShown_31 (tgt := 38) (by decide) (fun hq => ?_) (fun hq => ?_)
          · replace h := h.2.1 hq
            clear hq
            refine a_wid 0 0 (by omega) (by omega) ?_
            exact hjj38  h
          · replace h := h.2.2 hq
            clear hq
            refine a_iconst (pc := 34) a dX1_seeAllShown_34 ?_
            refine a_goto (pc := 35) a dX1_seeAllShown_35 (tgt := 39) (by decide) ?_
            refine a_wid 0 0 (by omega) (by omega) ?_
            exact hjj39 1 h

set_option maxRecDepth 100000 in
set_option maxHeartbeats 4000000 in
theorem c_X1_hideCovered {l : Launch} {D : va_G} {X : XI} {ad : Nat → Nat} (hinj : adI ad) (hl0 : l.stackTraces = false) {b : Nat} {q1 : Nat} (tb : tyc b (5, 0)) (tq1 : tyc q1 (7, 0)) {σ : St} {K : St → Prop} (h : f_X1_hideCovered b q1 σ K) (sz : Nat) : Met l yX1_hideCovered (WW (.code yX1_hideCovered cX1_hideCovered 3 none)) { frames := 1, cells := 0, slots := 0, locals := 24 } (va_Pc [Value.ref (ad b), Value.ref (ad q1)] (WD D X ad σ sz)) (QV D X ad sz K) 0 0 (AA ad sz) := by
  refine a_start (cc := cX1_hideCovered) (maxL := 3) (ret := none) (own := RX1) [Value.ref (ad b), Value.ref (ad q1)] (by decide) rfl rfl (Nat.le_of_ble_eq_true rfl) hinj hl0 ?_
  intro p e s m below meth c a hr hsz
  subst hsz
  have hts := a.1.2.2.2.2
  have w1 := hts (Cond.fieldLink RX1 15 "SightLegend$Legend" "inSight" "[Z") (List.mem_cons_of_mem _ (GL_2 _ (by decide +kernel)))
  have w2 : ∀ w ∈ u_ws RX1 TX1 12, w ∈ WW (.code yX1_hideCovered cX1_hideCovered 3 none) := fun w h => List.mem_cons_of_mem _ (inlX1 w h)
  have w3 : tyc (b + 2) (1, 40) := ty_of (d := 2) (t1 := (1, 40)) (by decide +kernel) rfl tb
  have w4 := hts (Cond.fieldLink RX1 9 "SightLegend$Legend" "shown" "[Z") (List.mem_cons_of_mem _ (GL_2 _ (by decide +kernel)))
  have w5 : tyc (b + 1) (1, 40) := ty_of (d := 1) (t1 := (1, 40)) (by decide +kernel) rfl tb
  have w6 := hts (Cond.fieldLink RX1 38 "SightLegend$Legend" "box" "LSightLegend$Box;") (List.mem_cons_of_mem _ (GL_3 _ (by decide +kernel)))
  have w7 : tyc (b + 32) (4, 0) := ty_of (d := 32) (t1 := (4, 0)) (by decide +kernel) rfl tb
  unfold f_X1_hideCovered at h
  refine a_sub (ls1 := [(0, Value.ref (ad b)), (1, Value.ref (ad q1))]) [0, 1] rfl ?_
  refine a_iconst (pc := 0) a dX1_hideCovered_0 ?_
  refine a_istore_n (pc := 1) a (ls1 := [(2, vI 0), (0, Value.ref (ad b)), (1, Value.ref (ad q1))]) dX1_hideCovered_1 rfl (by decide) rfl ?_
  refine a_sub (ls1 := [(0, Value.ref (ad b)), (1, Value.ref (ad q1)), (2, vI 0)]) [1, 2, 0] rfl ?_
  refine g_wl1s (fun x1 => [(0, Value.ref (ad b)), (1, Value.ref (ad q1)), (2, vI x1)]) h ?_
  clear h
  intro x1 s2 ag2 hag2 h
  refine a_iload_n (pc := 2) a 2 dX1_hideCovered_2 rfl rfl ?_
  refine a_bipush (pc := 3) a dX1_hideCovered_3 (by decide) ?_
  refine a_icmp_ge (pc := 5) a h.1 ⟨by decide, by decide⟩ dX1_hideCovered_5 (tgt := 46) (by decide) (fun hq => ?_) (fun hq => ?_)
  · replace h := h.2.1 hq
    clear hq
    exact e_v (pc := 46) a hr dX1_hideCovered_46 h
  · replace h := h.2.2 hq
    clear hq
    refine a_aload_n (pc := 8) a 0 dX1_hideCovered_8 rfl rfl ?_
    refine a_getR (pc := 9) a 2 2 rfl tb vc1 w2 w1 (by decide) (by decide) 2 (q := (b + 2)) rfl rfl dX1_hideCovered_9 ?_
    refine a_iload_n (pc := 12) a 2 dX1_hideCovered_12 rfl rfl ?_
    refine a_aload_n (pc := 13) a 0 dX1_hideCovered_13 rfl rfl ?_
    refine a_getR (pc := 14) a 1 1 rfl tb vc1 w2 w4 (by decide) (by decide) 1 (q := (b + 1)) rfl rfl dX1_hideCovered_14 ?_
    refine a_iload_n (pc := 17) a 2 dX1_hideCovered_17 rfl rfl ?_
    refine a_zald (pc := 18) a (tw hinj w5) (by decide) h.1 dX1_hideCovered_18 ?_
    replace h := h.2
    refine a_if_eq (pc := 19) a h.1 dX1_hideCovered_19 (tgt := 38) (by decide) (fun hq => ?_) (fun hq => ?_)
    · replace h := h.2.1 hq
      clear hq
      refine a_iconst (pc := 38) a dX1_hideCovered_38 ?_
      refine a_zast (pc := 39) a (tw hinj w3) (by decide) h.1 (by decide) dX1_hideCovered_39 ?_
      replace h := h.2
      refine a_nmS (fun s3 hx => ?_)
      replace h := h s3 hx
      clear hx
      refine a_iinc (pc := 40) a (ls1 := [(2, vI (x1 + 1)), (0, Value.ref (ad b)), (1, Value.ref (ad q1))]) 2 dX1_hideCovered_40 rfl (by decide) rfl ?_
      refine a_goto (pc := 43) a dX1_hideCovered_43 (tgt := 2) (by decide) ?_
      refine a_sub (ls1 := [(0, Value.ref (ad b)), (1, Value.ref (ad q1)), (2, vI (x1 + 1))]) [1, 2, 0] rfl ?_
      exact hag2 (x1 + 1) s3 h
    · replace h := h.2.2 hq
      clear hq
      refine a_aload_n (pc := 22) a 0 dX1_hideCovered_22 rfl rfl ?_
      refine a_getR (pc := 23) a 8 8 rfl tb vc1 w2 w6 (by decide) (by decide) 32 (q := (b + 32)) rfl rfl dX1_hideCovered_23 ?_
      refine a_aload_n (pc := 26) a 1 dX1_hideCovered_26 rfl rfl ?_
      refine a_iload_n (pc := 27) a 2 dX1_hideCovered_27 rfl rfl ?_
      refine a_cvi (pc := 28) a (As := [Value.ref (ad q1), vI x1]) (rest := [vI x1, Value.ref (ad (b + 2))]) w7 vc0 (fun sz => c_X0_covers hinj hl0 w7 tq1 h sz) (cwV 2 hts (gl_V (GL_8 _ (by decide +kernel)) (GL_8 _ (by decide +kernel)) (GL_8 _ (by decide +kernel)) (GL_3 _ (by decide +kernel)) (GL_8 _ (by decide +kernel))) rfl rfl rfl (by decide +kernel) ⟨Nat.le_of_ble_eq_true rfl, Nat.le_of_ble_eq_true rfl⟩) rfl rfl (Nat.le_of_ble_eq_true rfl) ⟨Nat.le_of_ble_eq_true rfl, Nat.le_of_ble_eq_true rfl⟩ dX1_hideCovered_28 ?_
      rintro x4 s9 ⟨hs9, h9⟩
      subst s9
      replace h := h9
      clear h9
      refine a_if_ne (pc := 31) a h.1 dX1_hideCovered_31 (tgt := 38) (by decide) (fun hq => ?_) (fun hq => ?_)
      · replace h := h.2.1 hq
        clear hq
        refine a_iconst (pc := 38) a dX1_hideCovered_38 ?_
        refine a_zast (pc := 39) a (tw hinj w3) (by decide) h.1 (by decide) dX1_hideCovered_39 ?_
        replace h := h.2
        refine a_nmS (fun s5 hx => ?_)
        replace h := h s5 hx
        clear hx
        refine a_iinc (pc := 40) a (ls1 := [(2, vI (x1 + 1)), (0, Value.ref (ad b)), (1, Value.ref (ad q1))]) 2 dX1_hideCovered_40 rfl (by decide) rfl ?_
        refine a_goto (pc := 43) a dX1_hideCovered_43 (tgt := 2) (by decide) ?_
        refine a_sub (ls1 := [(0, Value.ref (ad b)), (1, Value.ref (ad q1)), (2, vI (x1 + 1))]) [1, 2, 0] rfl ?_
        exact hag2 (x1 + 1) s5 h
      · replace h := h.2.2 hq
        clear hq
        refine a_iconst (pc := 34) a dX1_hideCovered_34 ?_
        refine a_goto (pc := 35) a dX1_hideCovered_35 (tgt := 39) (by decide) ?_
        refine a_zast (pc := 39) a (tw hinj w3) (by decide) h.1 (by decide) dX1_hideCovered_39 ?_
        replace h := h.2
        refine a_nmS (fun s6 hx => ?_)
        replace h := h s6 hx
        clear hx
        refine a_iinc (pc := 40) a (ls1 := [(2, vI (x1 + 1)), (0, Value.ref (ad b)), (1, Value.ref (ad q1))]) 2 dX1_hideCovered_40 rfl (by decide) rfl ?_
        refine a_goto (pc := 43) a dX1_hideCovered_43 (tgt := 2) (by decide) ?_
        refine a_sub (ls1 := [(0, Value.ref (ad b)), (1, Value.ref (ad q1)), (2, vI (x1 + 1))]) [1, 2, 0] rfl ?_
        exact hag2 (x1 + 1) s6 h

set_option maxRecDepth 100000 in
set_option maxHeartbeats 4000000 in
theorem c_X1_makeRound {l : Launch} {D : va_G} {X : XI} {ad : Nat → Nat} (hinj : adI ad) (hl0 : l.stackTraces = false) {b : Nat} {q1 : Nat} {p2 : Int} (tb : tyc b (5, 0)) (tq1 : tyc q1 (7, 0)) {σ : St} {K : St → Prop} (h : f_X1_makeRound b q1 p2 σ K) (sz : Nat) : Met l yX1_makeRound (WW (.code yX1_makeRound cX1_makeRound 3 none)) { frames := 4, cells := 0, slots := 0, locals := 103 } (va_Pc [Value.ref (ad b), Value.ref (ad q1), vI p2] (WD D X ad σ sz)) (QV D X ad sz K) 0 0 (AA ad sz) := by
  refine a_start (cc := cX1_makeRound) (maxL := 3) (ret := none) (own := RX1) [Value.ref (ad b), Value.ref (ad q1), vI p2] (by decide) rfl rfl (Nat.le_of_ble_eq_true rfl) hinj hl0 ?_
  intro p e s m below meth c a hr hsz
  subst hsz
  have hts := a.1.2.2.2.2
  have w1 := hts (Cond.fieldLink RX1 32 "SightLegend$Legend" "before" "LSightLegend$Lines;") (List.mem_cons_of_mem _ (GL_3 _ (by decide +kernel)))
  have w2 : ∀ w ∈ u_ws RX1 TX1 12, w ∈ WW (.code yX1_makeRound cX1_makeRound 3 none) := fun w h => List.mem_cons_of_mem _ (inlX1 w h)
  have w3 : tyc (b + 21) (6, 0) := ty_of (d := 21) (t1 := (6, 0)) (by decide +kernel) rfl tb
  have w4 := hts (Cond.fieldLink RX1 28 "SightLegend$Legend" "now" "LSightLegend$Lines;") (List.mem_cons_of_mem _ (GL_3 _ (by decide +kernel)))
  have w5 : tyc (b + 10) (6, 0) := ty_of (d := 10) (t1 := (6, 0)) (by decide +kernel) rfl tb
  have w6 := hts (Cond.fieldLink RX1 21 "SightLegend$Legend" "ranges" "LSightLegend$Ranges;") (List.mem_cons_of_mem _ (GL_3 _ (by decide +kernel)))
  have w7 : tyc (b + 3) (8, 0) := ty_of (d := 3) (t1 := (8, 0)) (by decide +kernel) rfl tb
  have w8 := hts (Cond.fieldLink RX1 15 "SightLegend$Legend" "inSight" "[Z") (List.mem_cons_of_mem _ (GL_2 _ (by decide +kernel)))
  have w9 : tyc (b + 2) (1, 40) := ty_of (d := 2) (t1 := (1, 40)) (by decide +kernel) rfl tb
  have w10 := hts (Cond.fieldLink RX1 92 "SightLegend$MapState" "settings" "[I") (List.mem_cons_of_mem _ (GL_9 _ (by decide +kernel)))
  have w11 : ∀ w ∈ u_ws RX3 TX3 13, w ∈ WW (.code yX1_makeRound cX1_makeRound 3 none) := fun w h => List.mem_cons_of_mem _ (inlX3 w h)
  have w12 : tyc (q1 + 12) (0, 4) := ty_of (d := 12) (t1 := (0, 4)) (by decide +kernel) rfl tq1
  have w13 := hts (Cond.fieldLink RX1 38 "SightLegend$Legend" "box" "LSightLegend$Box;") (List.mem_cons_of_mem _ (GL_3 _ (by decide +kernel)))
  have w14 : tyc (b + 32) (4, 0) := ty_of (d := 32) (t1 := (4, 0)) (by decide +kernel) rfl tb
  have w15 := hts (Cond.fieldLink RX1 9 "SightLegend$Legend" "shown" "[Z") (List.mem_cons_of_mem _ (GL_2 _ (by decide +kernel)))
  have w16 : tyc (b + 1) (1, 40) := ty_of (d := 1) (t1 := (1, 40)) (by decide +kernel) rfl tb
  have w17 := hts (Cond.fieldLink RX1 104 "SightLegend$Legend" "roundCount" "I") (List.mem_cons_of_mem _ (GL_9 _ (by decide +kernel)))
  have w18 := hts (Cond.fieldLink RX1 50 "SightLegend$Legend" "stays" "Z") (List.mem_cons_of_mem _ (GL_7 _ (by decide +kernel)))
  have w19 := hts (Cond.fieldLink RX1 107 "SightLegend$Lines" "size" "I") (List.mem_cons_of_mem _ (GL_9 _ (by decide +kernel)))
  have w20 : ∀ w ∈ u_ws RX2 TX2 14, w ∈ WW (.code yX1_makeRound cX1_makeRound 3 none) := fun w h => List.mem_cons_of_mem _ (inlX2 w h)
  have w21 := hts (Cond.fieldLink RX1 110 "SightLegend$Legend" "firstLineCount" "I") (List.mem_cons_of_mem _ (GL_9 _ (by decide +kernel)))
  unfold f_X1_makeRound at h
  refine a_sub (ls1 := [(0, Value.ref (ad b)), (1, Value.ref (ad q1)), (2, vI p2)]) [0, 1, 2] rfl ?_
  refine a_aload_n (pc := 0) a 0 dX1_makeRound_0 rfl rfl ?_
  refine a_getR (pc := 1) a 7 7 rfl tb vc1 w2 w1 (by decide) (by decide) 21 (q := (b + 21)) rfl rfl dX1_makeRound_1 ?_
  refine a_aload_n (pc := 4) a 0 dX1_makeRound_4 rfl rfl ?_
  refine a_getR (pc := 5) a 6 6 rfl tb vc1 w2 w4 (by decide) (by decide) 10 (q := (b + 10)) rfl rfl dX1_makeRound_5 ?_
  refine a_cvv (pc := 8) a (As := [Value.ref (ad (b + 10))]) (rest := []) w3 vc2 (fun sz => c_X2_copyFrom hinj hl0 w3 w5 h sz) (cwV 1 hts (gl_V (GL_9 _ (by decide +kernel)) (GL_9 _ (by decide +kernel)) (GL_9 _ (by decide +kernel)) (GL_3 _ (by decide +kernel)) (GL_9 _ (by decide +kernel))) rfl rfl rfl (by decide +kernel) ⟨Nat.le_of_ble_eq_true rfl, Nat.le_of_ble_eq_true rfl⟩) rfl rfl (Nat.le_of_ble_eq_true rfl) ⟨Nat.le_of_ble_eq_true rfl, Nat.le_of_ble_eq_true rfl⟩ dX1_makeRound_8 ?_
  clear h
  intro s1 h
  refine a_aload_n (pc := 11) a 0 dX1_makeRound_11 rfl rfl ?_
  refine a_getR (pc := 12) a 5 5 rfl tb vc1 w2 w6 (by decide) (by decide) 3 (q := (b + 3)) rfl rfl dX1_makeRound_12 ?_
  refine a_aload_n (pc := 15) a 1 dX1_makeRound_15 rfl rfl ?_
  refine a_aload_n (pc := 16) a 0 dX1_makeRound_16 rfl rfl ?_
  refine a_getR (pc := 17) a 2 2 rfl tb vc1 w2 w8 (by decide) (by decide) 2 (q := (b + 2)) rfl rfl dX1_makeRound_17 ?_
  refine a_cvv (pc := 20) a (As := [Value.ref (ad q1), Value.ref (ad (b + 2))]) (rest := []) w7 vc4 (fun sz => c_X4_build hinj hl0 w7 tq1 w9 h sz) (cwV 2 hts (gl_V (GL_9 _ (by decide +kernel)) (GL_9 _ (by decide +kernel)) (GL_9 _ (by decide +kernel)) (GL_3 _ (by decide +kernel)) (GL_9 _ (by decide +kernel))) rfl rfl rfl (by decide +kernel) ⟨Nat.le_of_ble_eq_true rfl, Nat.le_of_ble_eq_true rfl⟩) rfl rfl (Nat.le_of_ble_eq_true rfl) ⟨Nat.le_of_ble_eq_true rfl, Nat.le_of_ble_eq_true rfl⟩ dX1_makeRound_20 ?_
  clear h
  intro s2 h
  refine a_aload_n (pc := 23) a 0 dX1_makeRound_23 rfl rfl ?_
  refine a_getR (pc := 24) a 6 6 rfl tb vc1 w2 w4 (by decide) (by decide) 10 (q := (b + 10)) rfl rfl dX1_makeRound_24 ?_
  refine a_aload_n (pc := 27) a 1 dX1_makeRound_27 rfl rfl ?_
  refine a_aload_n (pc := 28) a 0 dX1_makeRound_28 rfl rfl ?_
  refine a_getR (pc := 29) a 5 5 rfl tb vc1 w2 w6 (by decide) (by decide) 3 (q := (b + 3)) rfl rfl dX1_makeRound_29 ?_
  refine a_cvv (pc := 32) a (As := [Value.ref (ad q1), Value.ref (ad (b + 3))]) (rest := []) w5 vc2 (fun sz => c_X2_compose hinj hl0 w5 tq1 w7 h sz) (cwV 2 hts (gl_V (GL_10 _ (by decide +kernel)) (GL_10 _ (by decide +kernel)) (GL_10 _ (by decide +kernel)) (GL_3 _ (by decide +kernel)) (GL_10 _ (by decide +kernel))) rfl rfl rfl (by decide +kernel) ⟨Nat.le_of_ble_eq_true rfl, Nat.le_of_ble_eq_true rfl⟩) rfl rfl (Nat.le_of_ble_eq_true rfl) ⟨Nat.le_of_ble_eq_true rfl, Nat.le_of_ble_eq_true rfl⟩ dX1_makeRound_32 ?_
  clear h
  intro s3 h
  refine a_aload_n (pc := 35) a 0 dX1_makeRound_35 rfl rfl ?_
  refine a_getR (pc := 36) a 6 6 rfl tb vc1 w2 w4 (by decide) (by decide) 10 (q := (b + 10)) rfl rfl dX1_makeRound_36 ?_
  refine a_aload_n (pc := 39) a 1 dX1_makeRound_39 rfl rfl ?_
  refine a_getR (pc := 40) a 12 12 rfl tq1 vc3 w11 w10 (by decide) (by decide) 12 (q := (q1 + 12)) rfl rfl dX1_makeRound_40 ?_
  refine a_iconst (pc := 43) a dX1_makeRound_43 ?_
  refine a_iald (pc := 44) a (tw hinj w12) (by decide) (by decide) dX1_makeRound_44 ?_
  refine a_cvv (pc := 45) a (As := [vI (s3 (q1 + 12) 1)]) (rest := []) w5 vc2 (fun sz => c_X2_layOut hinj hl0 w5 h sz) (cwV 1 hts (gl_V (GL_11 _ (by decide +kernel)) (GL_11 _ (by decide +kernel)) (GL_11 _ (by decide +kernel)) (GL_3 _ (by decide +kernel)) (GL_11 _ (by decide +kernel))) rfl rfl rfl (by decide +kernel) ⟨Nat.le_of_ble_eq_true rfl, Nat.le_of_ble_eq_true rfl⟩) rfl rfl (Nat.le_of_ble_eq_true rfl) ⟨Nat.le_of_ble_eq_true rfl, Nat.le_of_ble_eq_true rfl⟩ dX1_makeRound_45 ?_
  clear h
  intro s4 h
  refine a_aload_n (pc := 48) a 0 dX1_makeRound_48 rfl rfl ?_
  refine a_getR (pc := 49) a 8 8 rfl tb vc1 w2 w13 (by decide) (by decide) 32 (q := (b + 32)) rfl rfl dX1_makeRound_49 ?_
  refine a_aload_n (pc := 52) a 1 dX1_makeRound_52 rfl rfl ?_
  refine a_aload_n (pc := 53) a 0 dX1_makeRound_53 rfl rfl ?_
  refine a_getR (pc := 54) a 6 6 rfl tb vc1 w2 w4 (by decide) (by decide) 10 (q := (b + 10)) rfl rfl dX1_makeRound_54 ?_
  refine a_aload_n (pc := 57) a 0 dX1_makeRound_57 rfl rfl ?_
  refine a_getR (pc := 58) a 1 1 rfl tb vc1 w2 w15 (by decide) (by decide) 1 (q := (b + 1)) rfl rfl dX1_makeRound_58 ?_
  refine a_cvv (pc := 61) a (As := [Value.ref (ad q1), Value.ref (ad (b + 10)), Value.ref (ad (b + 1))]) (rest := []) w14 vc0 (fun sz => c_X0_place hinj hl0 w14 tq1 w5 w16 h sz) (cwV 3 hts (gl_V (GL_12 _ (by decide +kernel)) (GL_12 _ (by decide +kernel)) (GL_12 _ (by decide +kernel)) (GL_3 _ (by decide +kernel)) (GL_12 _ (by decide +kernel))) rfl rfl rfl (by decide +kernel) ⟨Nat.le_of_ble_eq_true rfl, Nat.le_of_ble_eq_true rfl⟩) rfl rfl (Nat.le_of_ble_eq_true rfl) ⟨Nat.le_of_ble_eq_true rfl, Nat.le_of_ble_eq_true rfl⟩ dX1_makeRound_61 ?_
  clear h
  intro s5 h
  refine a_aload_n (pc := 64) a 0 dX1_makeRound_64 rfl rfl ?_
  refine a_iload_n (pc := 65) a 2 dX1_makeRound_65 rfl rfl ?_
  refine a_putI (pc := 66) a 9 9 rfl tb vc1 w2 w17 (by decide) (by decide) tyX1 tyX1_ok nmX1 rfl rfl (by decide +kernel) dX1_makeRound_66 ?_
  refine a_nmS (fun s6 hx => ?_)
  replace h := h s6 hx
  clear hx
  refine a_iload_n (pc := 69) a 2 dX1_makeRound_69 rfl rfl ?_
  refine a_iconst (pc := 70) a dX1_makeRound_70 ?_
  refine a_icmp_ne (pc := 71) a h.1 ⟨by decide, by decide⟩ dX1_makeRound_71 (tgt := 88) (by decide) (fun hq => ?_) (fun hq => ?_)
  · replace h := h.2.1 hq
    clear hq
    refine a_aload_n (pc := 88) a 0 dX1_makeRound_88 rfl rfl ?_
    refine a_aload_n (pc := 89) a 0 dX1_makeRound_89 rfl rfl ?_
    refine a_getR (pc := 90) a 6 6 rfl tb vc1 w2 w4 (by decide) (by decide) 10 (q := (b + 10)) rfl rfl dX1_makeRound_90 ?_
    refine a_aload_n (pc := 93) a 0 dX1_makeRound_93 rfl rfl ?_
    refine a_getR (pc := 94) a 7 7 rfl tb vc1 w2 w1 (by decide) (by decide) 21 (q := (b + 21)) rfl rfl dX1_makeRound_94 ?_
    refine a_cvi (pc := 97) a (As := [Value.ref (ad (b + 21))]) (rest := [Value.ref (ad b)]) w5 vc2 (fun sz => c_X2_isSameAs hinj hl0 w5 w3 h sz) (cwV 1 hts (gl_V (GL_13 _ (by decide +kernel)) (GL_13 _ (by decide +kernel)) (GL_13 _ (by decide +kernel)) (GL_3 _ (by decide +kernel)) (GL_13 _ (by decide +kernel))) rfl rfl rfl (by decide +kernel) ⟨Nat.le_of_ble_eq_true rfl, Nat.le_of_ble_eq_true rfl⟩) rfl rfl (Nat.le_of_ble_eq_true rfl) ⟨Nat.le_of_ble_eq_true rfl, Nat.le_of_ble_eq_true rfl⟩ dX1_makeRound_97 ?_
    rintro x7 s9 ⟨hs9, h9⟩
    subst s9
    replace h := h9
    clear h9
    refine a_putZ (pc := 100) a 10 10 rfl tb vc1 w2 w18 (by decide) (by decide) tyX1 tyX1_ok nmX1 h.1 rfl rfl (by decide +kernel) dX1_makeRound_100 ?_
    replace h := h.2
    refine a_nmS (fun s8 hx => ?_)
    replace h := h s8 hx
    clear hx
    exact e_v (pc := 103) a hr dX1_makeRound_103 h
  · replace h := h.2.2 hq
    clear hq
    refine a_aload_n (pc := 74) a 0 dX1_makeRound_74 rfl rfl ?_
    refine a_aload_n (pc := 75) a 0 dX1_makeRound_75 rfl rfl ?_
    refine a_getR (pc := 76) a 6 6 rfl tb vc1 w2 w4 (by decide) (by decide) 10 (q := (b + 10)) rfl rfl dX1_makeRound_76 ?_
    refine a_getI (pc := 79) a 0 0 rfl w5 vc2 w20 w19 (by decide) (by decide) rfl dX1_makeRound_79 ?_
    refine a_putI (pc := 82) a 11 11 rfl tb vc1 w2 w21 (by decide) (by decide) tyX1 tyX1_ok nmX1 rfl rfl (by decide +kernel) dX1_makeRound_82 ?_
    refine a_nmS (fun s9 hx => ?_)
    replace h := h s9 hx
    clear hx
    refine a_goto (pc := 85) a dX1_makeRound_85 (tgt := 103) (by decide) ?_
    exact e_v (pc := 103) a hr dX1_makeRound_103 h

set_option maxRecDepth 100000 in
set_option maxHeartbeats 4000000 in
theorem c_X1_make {l : Launch} {D : va_G} {X : XI} {ad : Nat → Nat} (hinj : adI ad) (hl0 : l.stackTraces = false) {b : Nat} {q1 : Nat} (tb : tyc b (5, 0)) (tq1 : tyc q1 (7, 0)) {σ : St} {K : St → Prop} (h : f_X1_make b q1 σ K) (sz : Nat) : Met l yX1_make (WW (.code yX1_make cX1_make 3 none)) { frames := 5, cells := 0, slots := 0, locals := 125 } (va_Pc [Value.ref (ad b), Value.ref (ad q1)] (WD D X ad σ sz)) (QV D X ad sz K) 0 0 (AA ad sz) := by
  refine a_start (cc := cX1_make) (maxL := 3) (ret := none) (own := RX1) [Value.ref (ad b), Value.ref (ad q1)] (by decide) rfl rfl (Nat.le_of_ble_eq_true rfl) hinj hl0 ?_
  intro p e s m below meth c a hr hsz
  subst hsz
  have hts := a.1.2.2.2.2
  have w1 := hts (Cond.fieldLink RX1 42 "SightLegend$Legend" "stands" "Z") (List.mem_cons_of_mem _ (GL_7 _ (by decide +kernel)))
  have w2 : ∀ w ∈ u_ws RX1 TX1 12, w ∈ WW (.code yX1_make cX1_make 3 none) := fun w h => List.mem_cons_of_mem _ (inlX1 w h)
  have w3 := hts (Cond.fieldLink RX1 50 "SightLegend$Legend" "stays" "Z") (List.mem_cons_of_mem _ (GL_7 _ (by decide +kernel)))
  have w4 := hts (Cond.fieldLink RX1 60 "SightLegend$Legend" "explainedCount" "I") (List.mem_cons_of_mem _ (GL_7 _ (by decide +kernel)))
  have w5 := hts (Cond.fieldLink RX1 15 "SightLegend$Legend" "inSight" "[Z") (List.mem_cons_of_mem _ (GL_2 _ (by decide +kernel)))
  have w6 : tyc (b + 2) (1, 40) := ty_of (d := 2) (t1 := (1, 40)) (by decide +kernel) rfl tb
  unfold f_X1_make at h
  refine a_sub (ls1 := [(0, Value.ref (ad b)), (1, Value.ref (ad q1))]) [0, 1] rfl ?_
  refine a_aload_n (pc := 0) a 0 dX1_make_0 rfl rfl ?_
  refine a_getI (pc := 1) a 0 0 rfl tb vc1 w2 w1 (by decide) (by decide) rfl dX1_make_1 ?_
  refine a_if_eq (pc := 4) a h.1 dX1_make_4 (tgt := 8) (by decide) (fun hq => ?_) (fun hq => ?_)
  · replace h := h.2.1 hq
    clear hq
    refine a_aload_n (pc := 8) a 0 dX1_make_8 rfl rfl ?_
    refine a_aload_n (pc := 9) a 1 dX1_make_9 rfl rfl ?_
    refine a_cvv (pc := 10) a (As := [Value.ref (ad q1)]) (rest := []) tb vc1 (fun sz => c_X1_seeAllShown hinj hl0 tb tq1 h sz) (cwV 1 hts (gl_V (GL_7 _ (by decide +kernel)) (GL_7 _ (by decide +kernel)) (GL_7 _ (by decide +kernel)) (GL_1 _ (by decide +kernel)) (GL_7 _ (by decide +kernel))) rfl rfl rfl (by decide +kernel) ⟨Nat.le_of_ble_eq_true rfl, Nat.le_of_ble_eq_true rfl⟩) rfl rfl (Nat.le_of_ble_eq_true rfl) ⟨Nat.le_of_ble_eq_true rfl, Nat.le_of_ble_eq_true rfl⟩ dX1_make_10 ?_
    clear h
    intro s1 h
    refine a_aload_n (pc := 13) a 0 dX1_make_13 rfl rfl ?_
    refine a_iconst (pc := 14) a dX1_make_14 ?_
    refine a_putZ (pc := 15) a 10 10 rfl tb vc1 w2 w3 (by decide) (by decide) tyX1 tyX1_ok nmX1 (by decide) rfl rfl (by decide +kernel) dX1_make_15 ?_
    refine a_nmS (fun s2 hx => ?_)
    replace h := h s2 hx
    clear hx
    refine a_iconst (pc := 18) a dX1_make_18 ?_
    refine a_istore_n (pc := 19) a (ls1 := [(2, vI 1), (0, Value.ref (ad b)), (1, Value.ref (ad q1))]) dX1_make_19 rfl (by decide) rfl ?_
    refine a_sub (ls1 := [(0, Value.ref (ad b)), (1, Value.ref (ad q1)), (2, vI 1)]) [1, 2, 0] rfl ?_
    refine g_wl1s (fun x3 => [(0, Value.ref (ad b)), (1, Value.ref (ad q1)), (2, vI x3)]) h ?_
    clear h
    intro x3 s4 ag20 hag20 h
    refine a_iload_n (pc := 20) a 2 dX1_make_20 rfl rfl ?_
    refine a_bipush (pc := 21) a dX1_make_21 (by decide) ?_
    refine g_wj0 55 0 0 [(0, Value.ref (ad b))] [] h ?_ ?_
    · clear h
      intro  h
      refine a_aload_n (pc := 55) a 0 dX1_make_55 rfl rfl ?_
      refine a_iconst (pc := 56) a dX1_make_56 ?_
      refine a_putI (pc := 57) a 4 4 rfl tb vc1 w2 w4 (by decide) (by decide) tyX1 tyX1_ok nmX1 rfl rfl (by decide +kernel) dX1_make_57 ?_
      refine a_nmS (fun s10 hx => ?_)
      replace h := h s10 hx
      clear hx
      refine a_iconst (pc := 60) a dX1_make_60 ?_
      refine a_istore_n (pc := 61) a (ls1 := [(2, vI 0), (0, Value.ref (ad b))]) dX1_make_61 rfl (by decide) rfl ?_
      refine a_sub (ls1 := [(0, Value.ref (ad b)), (2, vI 0)]) [1, 0] rfl ?_
      refine g_wl1s (fun x11 => [(0, Value.ref (ad b)), (2, vI x11)]) h ?_
      clear h
      intro x11 s12 ag62 hag62 h
      refine a_iload_n (pc := 62) a 1 dX1_make_62 rfl rfl ?_
      refine a_bipush (pc := 63) a dX1_make_63 (by decide) ?_
      refine a_icmp_ge (pc := 65) a h.1 ⟨by decide, by decide⟩ dX1_make_65 (tgt := 97) (by decide) (fun hq => ?_) (fun hq => ?_)
      · replace h := h.2.1 hq
        clear hq
        refine a_aload_n (pc := 97) a 0 dX1_make_97 rfl rfl ?_
        refine a_iconst (pc := 98) a dX1_make_98 ?_
        refine a_putZ (pc := 99) a 0 0 rfl tb vc1 w2 w1 (by decide) (by decide) tyX1 tyX1_ok nmX1 (by decide) rfl rfl (by decide +kernel) dX1_make_99 ?_
        refine a_nmS (fun s13 hx => ?_)
        replace h := h s13 hx
        clear hx
        exact e_v (pc := 102) a hr dX1_make_102 h
      · replace h := h.2.2 hq
        clear hq
        refine a_aload_n (pc := 68) a 0 dX1_make_68 rfl rfl ?_
        refine a_dup (pc := 69) a rfl dX1_make_69 ?_
        refine a_getI (pc := 70) a 4 4 rfl tb vc1 w2 w4 (by decide) (by decide) rfl dX1_make_70 ?_
        refine a_aload_n (pc := 73) a 0 dX1_make_73 rfl rfl ?_
        refine a_getR (pc := 74) a 2 2 rfl tb vc1 w2 w5 (by decide) (by decide) 2 (q := (b + 2)) rfl rfl dX1_make_74 ?_
        refine a_iload_n (pc := 77) a 1 dX1_make_77 rfl rfl ?_
        refine a_zald (pc := 78) a (tw hinj w6) (by decide) h.1 dX1_make_78 ?_
        replace h := h.2
        refine a_if_eq (pc := 79) a h.1 dX1_make_79 (tgt := 86) (by decide) (fun hq => ?_) (fun hq => ?_)
        · replace h := h.2.1 hq
          clear hq
          refine a_iconst (pc := 86) a dX1_make_86 ?_
          refine a_iadd (pc := 87) a dX1_make_87 ?_
          refine a_putI (pc := 88) a 4 4 rfl tb vc1 w2 w4 (by decide) (by decide) tyX1 tyX1_ok nmX1 rfl rfl (by decide +kernel) dX1_make_88 ?_
          refine a_nmS (fun s14 hx => ?_)
          replace h := h s14 hx
          clear hx
          refine a_iinc (pc := 91) a (ls1 := [(2, vI (x11 + 1)), (0, Value.ref (ad b))]) 1 dX1_make_91 rfl (by decide) rfl ?_
          refine a_goto (pc := 94) a dX1_make_94 (tgt := 62) (by decide) ?_
          refine a_sub (ls1 := [(0, Value.ref (ad b)), (2, vI (x11 + 1))]) [1, 0] rfl ?_
          exact hag62 (x11 + 1) s14 h
        · replace h := h.2.2 hq
          clear hq
          refine a_iconst (pc := 82) a dX1_make_82 ?_
          refine a_goto (pc := 83) a dX1_make_83 (tgt := 87) (by decide) ?_
          refine a_iadd (pc := 87) a dX1_make_87 ?_
          refine a_putI (pc := 88) a 4 4 rfl tb vc1 w2 w4 (by decide) (by decide) tyX1 tyX1_ok nmX1 rfl rfl (by decide +kernel) dX1_make_88 ?_
          refine a_nmS (fun s15 hx => ?_)
          replace h := h s15 hx
          clear hx
          refine a_iinc (pc := 91) a (ls1 := [(2, vI (x11 + 1)), (0, Value.ref (ad b))]) 1 dX1_make_91 rfl (by decide) rfl ?_
          refine a_goto (pc := 94) a dX1_make_94 (tgt := 62) (by decide) ?_
          refine a_sub (ls1 := [(0, Value.ref (ad b)), (2, vI (x11 + 1))]) [1, 0] rfl ?_
          exact hag62 (x11 + 1) s15 h
    · clear h
      intro jj55 hjj55 h
      refine a_icmp_gt (pc := 23) a h.1 ⟨by decide, by decide⟩ dX1_make_23 (tgt := 55) (by decide) (fun hq => ?_) (fun hq => ?_)
      · replace h := h.2.1 hq
        clear hq
        refine a_sub (ls1 := [(0, Value.ref (ad b))]) [0] rfl ?_
        refine a_wid 0 0 (by omega) (by omega) ?_
        exact hjj55  h
      · replace h := h.2.2 hq
        clear hq
        refine a_aload_n (pc := 26) a 0 dX1_make_26 rfl rfl ?_
        refine a_getI (pc := 27) a 10 10 rfl tb vc1 w2 w3 (by decide) (by decide) rfl dX1_make_27 ?_
        refine a_if_ne (pc := 30) a h.1 dX1_make_30 (tgt := 55) (by decide) (fun hq => ?_) (fun hq => ?_)
        · replace h := h.2.1 hq
          clear hq
          refine a_sub (ls1 := [(0, Value.ref (ad b))]) [0] rfl ?_
          refine a_wid 0 0 (by omega) (by omega) ?_
          exact hjj55  h
        · replace h := h.2.2 hq
          clear hq
          refine a_iload_n (pc := 33) a 2 dX1_make_33 rfl rfl ?_
          refine a_iconst (pc := 34) a dX1_make_34 ?_
          refine g_wj0s 43 0 0 [(0, Value.ref (ad b)), (1, Value.ref (ad q1)), (2, vI x3)] [] h ?_ ?_
          · clear h
            intro s8 h
            refine a_aload_n (pc := 43) a 0 dX1_make_43 rfl rfl ?_
            refine a_aload_n (pc := 44) a 1 dX1_make_44 rfl rfl ?_
            refine a_iload_n (pc := 45) a 2 dX1_make_45 rfl rfl ?_
            refine a_cvv (pc := 46) a (As := [Value.ref (ad q1), vI x3]) (rest := []) tb vc1 (fun sz => c_X1_makeRound hinj hl0 tb tq1 h sz) (cwV 2 hts (gl_V (GL_8 _ (by decide +kernel)) (GL_8 _ (by decide +kernel)) (GL_8 _ (by decide +kernel)) (GL_1 _ (by decide +kernel)) (GL_8 _ (by decide +kernel))) rfl rfl rfl (by decide +kernel) ⟨Nat.le_of_ble_eq_true rfl, Nat.le_of_ble_eq_true rfl⟩) rfl rfl (Nat.le_of_ble_eq_true rfl) ⟨Nat.le_of_ble_eq_true rfl, Nat.le_of_ble_eq_true rfl⟩ dX1_make_46 ?_
            clear h
            intro s9 h
            refine a_iinc (pc := 49) a (ls1 := [(2, vI (x3 + 1)), (0, Value.ref (ad b)), (1, Value.ref (ad q1))]) 2 dX1_make_49 rfl (by decide) rfl ?_
            refine a_goto (pc := 52) a dX1_make_52 (tgt := 20) (by decide) ?_
            refine a_sub (ls1 := [(0, Value.ref (ad b)), (1, Value.ref (ad q1)), (2, vI (x3 + 1))]) [1, 2, 0] rfl ?_
            exact hag20 (x3 + 1) s9 h
          · clear h
            intro jj43 hjj43 h
            refine a_icmp_le (pc := 35) a h.1 ⟨by decide, by decide⟩ dX1_make_35 (tgt := 43) (by decide) (fun hq => ?_) (fun hq => ?_)
            · replace h := h.2.1 hq
              clear hq
              refine a_wid 0 0 (by omega) (by omega) ?_
              exact hjj43 s4 h
            · replace h := h.2.2 hq
              clear hq
              refine a_aload_n (pc := 38) a 0 dX1_make_38 rfl rfl ?_
              refine a_aload_n (pc := 39) a 1 dX1_make_39 rfl rfl ?_
              refine a_cvv (pc := 40) a (As := [Value.ref (ad q1)]) (rest := []) tb vc1 (fun sz => c_X1_hideCovered hinj hl0 tb tq1 h sz) (cwV 1 hts (gl_V (GL_8 _ (by decide +kernel)) (GL_8 _ (by decide +kernel)) (GL_8 _ (by decide +kernel)) (GL_1 _ (by decide +kernel)) (GL_8 _ (by decide +kernel))) rfl rfl rfl (by decide +kernel) ⟨Nat.le_of_ble_eq_true rfl, Nat.le_of_ble_eq_true rfl⟩) rfl rfl (Nat.le_of_ble_eq_true rfl) ⟨Nat.le_of_ble_eq_true rfl, Nat.le_of_ble_eq_true rfl⟩ dX1_make_40 ?_
              clear h
              intro s7 h
              refine a_wid 0 0 (by omega) (by omega) ?_
              exact hjj43 s7 h
  · replace h := h.2.2 hq
    clear hq
    exact e_v (pc := 7) a hr dX1_make_7 h

set_option maxRecDepth 100000 in
set_option maxHeartbeats 4000000 in
theorem c_X1_countCoveredInSight {l : Launch} {D : va_G} {X : XI} {ad : Nat → Nat} (hinj : adI ad) (hl0 : l.stackTraces = false) {b : Nat} {q1 : Nat} (tb : tyc b (5, 0)) (tq1 : tyc q1 (7, 0)) {σ : St} {K : Int → Prop} (h : f_X1_countCoveredInSight b q1 σ K) (sz : Nat) : Met l yX1_countCoveredInSight (WW (.code yX1_countCoveredInSight cX1_countCoveredInSight 2 (some .int))) { frames := 2, cells := 0, slots := 0, locals := 48 } (va_Pc [Value.ref (ad b), Value.ref (ad q1)] (WD D X ad σ sz)) (QI D X ad sz (fun r τ => τ = σ ∧ K r)) 0 0 (AA ad sz) := by
  refine a_start (cc := cX1_countCoveredInSight) (maxL := 2) (ret := (some .int)) (own := RX1) [Value.ref (ad b), Value.ref (ad q1)] (by decide) rfl rfl (Nat.le_of_ble_eq_true rfl) hinj hl0 ?_
  intro p e s m below meth c a hr hsz
  subst hsz
  have hts := a.1.2.2.2.2
  have w1 := hts (Cond.fieldLink RX1 38 "SightLegend$Legend" "box" "LSightLegend$Box;") (List.mem_cons_of_mem _ (GL_3 _ (by decide +kernel)))
  have w2 : ∀ w ∈ u_ws RX1 TX1 12, w ∈ WW (.code yX1_countCoveredInSight cX1_countCoveredInSight 2 (some .int)) := fun w h => List.mem_cons_of_mem _ (inlX1 w h)
  have w3 : tyc (b + 32) (4, 0) := ty_of (d := 32) (t1 := (4, 0)) (by decide +kernel) rfl tb
  have w4 := hts (Cond.fieldLink RX1 15 "SightLegend$Legend" "inSight" "[Z") (List.mem_cons_of_mem _ (GL_2 _ (by decide +kernel)))
  have w5 : tyc (b + 2) (1, 40) := ty_of (d := 2) (t1 := (1, 40)) (by decide +kernel) rfl tb
  unfold f_X1_countCoveredInSight at h
  refine a_sub (ls1 := [(0, Value.ref (ad b)), (1, Value.ref (ad q1))]) [0, 1] rfl ?_
  refine a_aload_n (pc := 0) a 0 dX1_countCoveredInSight_0 rfl rfl ?_
  refine a_getR (pc := 1) a 8 8 rfl tb vc1 w2 w1 (by decide) (by decide) 32 (q := (b + 32)) rfl rfl dX1_countCoveredInSight_1 ?_
  refine a_aload_n (pc := 4) a 1 dX1_countCoveredInSight_4 rfl rfl ?_
  refine a_aload_n (pc := 5) a 0 dX1_countCoveredInSight_5 rfl rfl ?_
  refine a_getR (pc := 6) a 2 2 rfl tb vc1 w2 w4 (by decide) (by decide) 2 (q := (b + 2)) rfl rfl dX1_countCoveredInSight_6 ?_
  refine a_cvi (pc := 9) a (As := [Value.ref (ad q1), Value.ref (ad (b + 2))]) (rest := []) w3 vc0 (fun sz => c_X0_countCovered hinj hl0 w3 tq1 w5 h sz) (cwV 2 hts (gl_V (GL_14 _ (by decide +kernel)) (GL_12 _ (by decide +kernel)) (GL_12 _ (by decide +kernel)) (GL_3 _ (by decide +kernel)) (GL_13 _ (by decide +kernel))) rfl rfl rfl (by decide +kernel) ⟨Nat.le_of_ble_eq_true rfl, Nat.le_of_ble_eq_true rfl⟩) rfl rfl (Nat.le_of_ble_eq_true rfl) ⟨Nat.le_of_ble_eq_true rfl, Nat.le_of_ble_eq_true rfl⟩ dX1_countCoveredInSight_9 ?_
  rintro x1 s9 ⟨hs9, h9⟩
  subst s9
  replace h := h9
  clear h9
  exact e_i (pc := 12) a hr dX1_countCoveredInSight_12 ⟨rfl, h⟩

set_option maxRecDepth 100000 in
set_option maxHeartbeats 4000000 in
theorem c_X1_lineOf {l : Launch} {D : va_G} {X : XI} {ad : Nat → Nat} (hinj : adI ad) (hl0 : l.stackTraces = false) {b : Nat} {q1 : Nat} {p2 : Int} (tb : tyc b (5, 0)) (tq1 : tyc q1 (7, 0)) {σ : St} {K : Int → Prop} (h : f_X1_lineOf b q1 p2 σ K) (sz : Nat) : Met l yX1_lineOf (WW (.code yX1_lineOf cX1_lineOf 6 (some .int))) { frames := 1, cells := 0, slots := 0, locals := 24 } (va_Pc [Value.ref (ad b), Value.ref (ad q1), vI p2] (WD D X ad σ sz)) (QI D X ad sz (fun r τ => τ = σ ∧ K r)) 0 0 (AA ad sz) := by
  refine a_start (cc := cX1_lineOf) (maxL := 6) (ret := (some .int)) (own := RX1) [Value.ref (ad b), Value.ref (ad q1), vI p2] (by decide) rfl rfl (Nat.le_of_ble_eq_true rfl) hinj hl0 ?_
  intro p e s m below meth c a hr hsz
  subst hsz
  have hts := a.1.2.2.2.2
  have w1 := hts (Cond.fieldLink RX1 15 "SightLegend$Legend" "inSight" "[Z") (List.mem_cons_of_mem _ (GL_2 _ (by decide +kernel)))
  have w2 : ∀ w ∈ u_ws RX1 TX1 12, w ∈ WW (.code yX1_lineOf cX1_lineOf 6 (some .int)) := fun w h => List.mem_cons_of_mem _ (inlX1 w h)
  have w3 : tyc (b + 2) (1, 40) := ty_of (d := 2) (t1 := (1, 40)) (by decide +kernel) rfl tb
  have w4 := hts (Cond.fieldLink RX1 121 "SightLegend$MapState" "signKind" "[I") (List.mem_cons_of_mem _ (GL_17 _ (by decide +kernel)))
  have w5 : ∀ w ∈ u_ws RX3 TX3 13, w ∈ WW (.code yX1_lineOf cX1_lineOf 6 (some .int)) := fun w h => List.mem_cons_of_mem _ (inlX3 w h)
  have w6 : tyc (q1 + 1) (0, 40) := ty_of (d := 1) (t1 := (0, 40)) (by decide +kernel) rfl tq1
  have w7 := hts (Cond.fieldLink RX1 28 "SightLegend$Legend" "now" "LSightLegend$Lines;") (List.mem_cons_of_mem _ (GL_3 _ (by decide +kernel)))
  have w8 : tyc (b + 10) (6, 0) := ty_of (d := 10) (t1 := (6, 0)) (by decide +kernel) rfl tb
  have w9 := hts (Cond.fieldLink RX1 107 "SightLegend$Lines" "size" "I") (List.mem_cons_of_mem _ (GL_9 _ (by decide +kernel)))
  have w10 : ∀ w ∈ u_ws RX2 TX2 14, w ∈ WW (.code yX1_lineOf cX1_lineOf 6 (some .int)) := fun w h => List.mem_cons_of_mem _ (inlX2 w h)
  have w11 := hts (Cond.fieldLink RX1 128 "SightLegend$Lines" "type" "[I") (List.mem_cons_of_mem _ (GL_17 _ (by decide +kernel)))
  have w12 : tyc (b + 11) (0, 77) := ty_of (d := 1) (t1 := (0, 77)) (by decide +kernel) rfl w8
  have w13 := hts (Cond.fieldLink RX1 131 "SightLegend$Lines" "group" "[I") (List.mem_cons_of_mem _ (GL_17 _ (by decide +kernel)))
  have w14 : tyc (b + 13) (0, 77) := ty_of (d := 3) (t1 := (0, 77)) (by decide +kernel) rfl w8
  have w15 := hts (Cond.fieldLink RX1 134 "SightLegend$MapState" "group" "[I") (List.mem_cons_of_mem _ (GL_17 _ (by decide +kernel)))
  have w16 : tyc (q1 + 7) (0, 12) := ty_of (d := 7) (t1 := (0, 12)) (by decide +kernel) rfl tq1
  have w17 := hts (Cond.fieldLink RX1 135 "SightLegend$Lines" "kind" "[I") (List.mem_cons_of_mem _ (GL_17 _ (by decide +kernel)))
  have w18 : tyc (b + 12) (0, 77) := ty_of (d := 2) (t1 := (0, 77)) (by decide +kernel) rfl w8
  have w19 := hts (Cond.fieldLink RX1 138 "SightLegend$Lines" "first" "[I") (List.mem_cons_of_mem _ (GL_17 _ (by decide +kernel)))
  have w20 : tyc (b + 14) (0, 77) := ty_of (d := 4) (t1 := (0, 77)) (by decide +kernel) rfl w8
  have w21 := hts (Cond.fieldLink RX1 141 "SightLegend$Lines" "last" "[I") (List.mem_cons_of_mem _ (GL_17 _ (by decide +kernel)))
  have w22 : tyc (b + 15) (0, 77) := ty_of (d := 5) (t1 := (0, 77)) (by decide +kernel) rfl w8
  unfold f_X1_lineOf at h
  refine a_sub (ls1 := [(0, Value.ref (ad b)), (1, Value.ref (ad q1)), (2, vI p2)]) [0, 1, 2] rfl ?_
  refine a_aload_n (pc := 0) a 0 dX1_lineOf_0 rfl rfl ?_
  refine a_getR (pc := 1) a 2 2 rfl tb vc1 w2 w1 (by decide) (by decide) 2 (q := (b + 2)) rfl rfl dX1_lineOf_1 ?_
  refine a_iload_n (pc := 4) a 2 dX1_lineOf_4 rfl rfl ?_
  refine a_zald (pc := 5) a (tw hinj w3) (by decide) h.1 dX1_lineOf_5 ?_
  replace h := h.2
  refine a_if_ne (pc := 6) a h.1 dX1_lineOf_6 (tgt := 11) (by decide) (fun hq => ?_) (fun hq => ?_)
  · replace h := h.2.1 hq
    clear hq
    refine a_aload_n (pc := 11) a 1 dX1_lineOf_11 rfl rfl ?_
    refine a_getR (pc := 12) a 0 0 rfl tq1 vc3 w5 w4 (by decide) (by decide) 1 (q := (q1 + 1)) rfl rfl dX1_lineOf_12 ?_
    refine a_iload_n (pc := 15) a 2 dX1_lineOf_15 rfl rfl ?_
    refine a_iald (pc := 16) a (tw hinj w6) (by decide) h.1 dX1_lineOf_16 ?_
    replace h := h.2
    refine a_nm (fun x1 hx => ?_)
    replace h := h x1 hx
    clear hx
    refine a_istore_n (pc := 17) a (ls1 := [(3, vI x1), (0, Value.ref (ad b)), (1, Value.ref (ad q1)), (2, vI p2)]) dX1_lineOf_17 rfl (by decide) rfl ?_
    refine a_aload_n (pc := 18) a 2 dX1_lineOf_18 rfl rfl ?_
    refine a_iload_n (pc := 19) a 3 dX1_lineOf_19 rfl rfl ?_
    refine a_cvi (pc := 20) a (As := [vI p2]) (rest := []) tq1 vc3 (fun sz => c_X3_classOf hinj hl0 tq1 h sz) (cwV 1 hts (gl_V (GL_18 _ (by decide +kernel)) (GL_10 _ (by decide +kernel)) (GL_10 _ (by decide +kernel)) (GL_1 _ (by decide +kernel)) (GL_10 _ (by decide +kernel))) rfl rfl rfl (by decide +kernel) ⟨Nat.le_of_ble_eq_true rfl, Nat.le_of_ble_eq_true rfl⟩) rfl rfl (Nat.le_of_ble_eq_true rfl) ⟨Nat.le_of_ble_eq_true rfl, Nat.le_of_ble_eq_true rfl⟩ dX1_lineOf_20 ?_
    rintro x2 s9 ⟨hs9, h9⟩
    subst s9
    replace h := h9
    clear h9
    refine a_istore (pc := 23) a (ls1 := [(4, vI x2), (3, vI x1), (0, Value.ref (ad b)), (1, Value.ref (ad q1)), (2, vI p2)]) dX1_lineOf_23 (by decide) rfl ?_
    refine a_iconst (pc := 25) a dX1_lineOf_25 ?_
    refine a_istore (pc := 26) a (ls1 := [(5, vI 0), (4, vI x2), (3, vI x1), (0, Value.ref (ad b)), (1, Value.ref (ad q1)), (2, vI p2)]) dX1_lineOf_26 (by decide) rfl ?_
    refine a_sub (ls1 := [(0, Value.ref (ad b)), (1, Value.ref (ad q1)), (3, vI x1), (4, vI x2), (5, vI 0)]) [3, 4, 2, 1, 0] rfl ?_
    refine g_wl1 (fun x3 => [(0, Value.ref (ad b)), (1, Value.ref (ad q1)), (3, vI x1), (4, vI x2), (5, vI x3)]) h ?_
    clear h
    intro x3 ag28 hag28 h
    refine a_iload (pc := 28) a 4 dX1_lineOf_28 rfl ?_
    refine a_aload_n (pc := 30) a 0 dX1_lineOf_30 rfl rfl ?_
    refine a_getR (pc := 31) a 6 6 rfl tb vc1 w2 w7 (by decide) (by decide) 10 (q := (b + 10)) rfl rfl dX1_lineOf_31 ?_
    refine a_getI (pc := 34) a 0 0 rfl w8 vc2 w10 w9 (by decide) (by decide) rfl dX1_lineOf_34 ?_
    refine a_icmp_ge (pc := 37) a h.1 h.2.1 dX1_lineOf_37 (tgt := 129) (by decide) (fun hq => ?_) (fun hq => ?_)
    · replace h := h.2.2.1 hq
      clear hq
      refine a_iconst (pc := 129) a dX1_lineOf_129 ?_
      exact e_i (pc := 130) a hr dX1_lineOf_130 ⟨rfl, h⟩
    · replace h := h.2.2.2 hq
      clear hq
      refine a_aload_n (pc := 40) a 0 dX1_lineOf_40 rfl rfl ?_
      refine a_getR (pc := 41) a 6 6 rfl tb vc1 w2 w7 (by decide) (by decide) 10 (q := (b + 10)) rfl rfl dX1_lineOf_41 ?_
      refine a_getR (pc := 44) a 1 1 rfl w8 vc2 w10 w11 (by decide) (by decide) 1 (q := (b + 11)) rfl rfl dX1_lineOf_44 ?_
      refine a_iload (pc := 47) a 4 dX1_lineOf_47 rfl ?_
      refine a_iald (pc := 49) a (tw hinj w12) (by decide) h.1 dX1_lineOf_49 ?_
      replace h := h.2
      refine a_iconst (pc := 50) a dX1_lineOf_50 ?_
      refine g_wj0 76 0 0 [(0, Value.ref (ad b)), (1, Value.ref (ad q1)), (3, vI x1), (4, vI x2), (5, vI x3)] [] h ?_ ?_
      · clear h
        intro  h
        refine a_aload_n (pc := 76) a 0 dX1_lineOf_76 rfl rfl ?_
        refine a_getR (pc := 77) a 6 6 rfl tb vc1 w2 w7 (by decide) (by decide) 10 (q := (b + 10)) rfl rfl dX1_lineOf_77 ?_
        refine a_getR (pc := 80) a 2 2 rfl w8 vc2 w10 w17 (by decide) (by decide) 2 (q := (b + 12)) rfl rfl dX1_lineOf_80 ?_
        refine a_iload (pc := 83) a 4 dX1_lineOf_83 rfl ?_
        refine a_iald (pc := 85) a (tw hinj w18) (by decide) h.1 dX1_lineOf_85 ?_
        replace h := h.2
        refine a_iload_n (pc := 86) a 2 dX1_lineOf_86 rfl rfl ?_
        refine a_icmp_ne (pc := 87) a h.1 h.2.1 dX1_lineOf_87 (tgt := 123) (by decide) (fun hq => ?_) (fun hq => ?_)
        · replace h := h.2.2.1 hq
          clear hq
          refine a_iinc (pc := 123) a (ls1 := [(5, vI (x3 + 1)), (0, Value.ref (ad b)), (1, Value.ref (ad q1)), (3, vI x1), (4, vI x2)]) 4 dX1_lineOf_123 rfl (by decide) rfl ?_
          refine a_goto (pc := 126) a dX1_lineOf_126 (tgt := 28) (by decide) ?_
          refine a_sub (ls1 := [(0, Value.ref (ad b)), (1, Value.ref (ad q1)), (3, vI x1), (4, vI x2), (5, vI (x3 + 1))]) [1, 2, 3, 4, 0] rfl ?_
          exact hag28 (x3 + 1) h
        · replace h := h.2.2.2 hq
          clear hq
          refine a_aload_n (pc := 90) a 0 dX1_lineOf_90 rfl rfl ?_
          refine a_getR (pc := 91) a 6 6 rfl tb vc1 w2 w7 (by decide) (by decide) 10 (q := (b + 10)) rfl rfl dX1_lineOf_91 ?_
          refine a_getR (pc := 94) a 4 4 rfl w8 vc2 w10 w19 (by decide) (by decide) 4 (q := (b + 14)) rfl rfl dX1_lineOf_94 ?_
          refine a_iload (pc := 97) a 4 dX1_lineOf_97 rfl ?_
          refine a_iald (pc := 99) a (tw hinj w20) (by decide) h.1 dX1_lineOf_99 ?_
          replace h := h.2
          refine a_iload (pc := 100) a 3 dX1_lineOf_100 rfl ?_
          refine a_icmp_gt (pc := 102) a h.1 h.2.1 dX1_lineOf_102 (tgt := 123) (by decide) (fun hq => ?_) (fun hq => ?_)
          · replace h := h.2.2.1 hq
            clear hq
            refine a_iinc (pc := 123) a (ls1 := [(5, vI (x3 + 1)), (0, Value.ref (ad b)), (1, Value.ref (ad q1)), (3, vI x1), (4, vI x2)]) 4 dX1_lineOf_123 rfl (by decide) rfl ?_
            refine a_goto (pc := 126) a dX1_lineOf_126 (tgt := 28) (by decide) ?_
            refine a_sub (ls1 := [(0, Value.ref (ad b)), (1, Value.ref (ad q1)), (3, vI x1), (4, vI x2), (5, vI (x3 + 1))]) [1, 2, 3, 4, 0] rfl ?_
            exact hag28 (x3 + 1) h
          · replace h := h.2.2.2 hq
            clear hq
            refine a_iload (pc := 105) a 3 dX1_lineOf_105 rfl ?_
            refine a_aload_n (pc := 107) a 0 dX1_lineOf_107 rfl rfl ?_
            refine a_getR (pc := 108) a 6 6 rfl tb vc1 w2 w7 (by decide) (by decide) 10 (q := (b + 10)) rfl rfl dX1_lineOf_108 ?_
            refine a_getR (pc := 111) a 5 5 rfl w8 vc2 w10 w21 (by decide) (by decide) 5 (q := (b + 15)) rfl rfl dX1_lineOf_111 ?_
            refine a_iload (pc := 114) a 4 dX1_lineOf_114 rfl ?_
            refine a_iald (pc := 116) a (tw hinj w22) (by decide) h.1 dX1_lineOf_116 ?_
            replace h := h.2
            refine a_icmp_gt (pc := 117) a h.1 h.2.1 dX1_lineOf_117 (tgt := 123) (by decide) (fun hq => ?_) (fun hq => ?_)
            · replace h := h.2.2.1 hq
              clear hq
              refine a_iinc (pc := 123) a (ls1 := [(5, vI (x3 + 1)), (0, Value.ref (ad b)), (1, Value.ref (ad q1)), (3, vI x1), (4, vI x2)]) 4 dX1_lineOf_123 rfl (by decide) rfl ?_
              refine a_goto (pc := 126) a dX1_lineOf_126 (tgt := 28) (by decide) ?_
              refine a_sub (ls1 := [(0, Value.ref (ad b)), (1, Value.ref (ad q1)), (3, vI x1), (4, vI x2), (5, vI (x3 + 1))]) [1, 2, 3, 4, 0] rfl ?_
              exact hag28 (x3 + 1) h
            · replace h := h.2.2.2 hq
              clear hq
              refine a_iload (pc := 120) a 4 dX1_lineOf_120 rfl ?_
              exact e_i (pc := 122) a hr dX1_lineOf_122 ⟨rfl, h⟩
      · clear h
        intro jj76 hjj76 h
        refine a_icmp_ne (pc := 51) a h.1 ⟨by decide, by decide⟩ dX1_lineOf_51 (tgt := 76) (by decide) (fun hq => ?_) (fun hq => ?_)
        · replace h := h.2.1 hq
          clear hq
          refine a_wid 0 0 (by omega) (by omega) ?_
          exact hjj76  h
        · replace h := h.2.2 hq
          clear hq
          refine a_aload_n (pc := 54) a 0 dX1_lineOf_54 rfl rfl ?_
          refine a_getR (pc := 55) a 6 6 rfl tb vc1 w2 w7 (by decide) (by decide) 10 (q := (b + 10)) rfl rfl dX1_lineOf_55 ?_
          refine a_getR (pc := 58) a 3 3 rfl w8 vc2 w10 w13 (by decide) (by decide) 3 (q := (b + 13)) rfl rfl dX1_lineOf_58 ?_
          refine a_iload (pc := 61) a 4 dX1_lineOf_61 rfl ?_
          refine a_iald (pc := 63) a (tw hinj w14) (by decide) h.1 dX1_lineOf_63 ?_
          replace h := h.2
          refine a_aload_n (pc := 64) a 1 dX1_lineOf_64 rfl rfl ?_
          refine a_getR (pc := 65) a 7 7 rfl tq1 vc3 w5 w15 (by decide) (by decide) 7 (q := (q1 + 7)) rfl rfl dX1_lineOf_65 ?_
          refine a_iload_n (pc := 68) a 2 dX1_lineOf_68 rfl rfl ?_
          refine a_iald (pc := 69) a (tw hinj w16) (by decide) h.1 dX1_lineOf_69 ?_
          replace h := h.2
          refine a_icmp_ne (pc := 70) a h.1 h.2.1 dX1_lineOf_70 (tgt := 76) (by decide) (fun hq => ?_) (fun hq => ?_)
          · replace h := h.2.2.1 hq
            clear hq
            refine a_wid 0 0 (by omega) (by omega) ?_
            exact hjj76  h
          · replace h := h.2.2.2 hq
            clear hq
            refine a_iload (pc := 73) a 4 dX1_lineOf_73 rfl ?_
            exact e_i (pc := 75) a hr dX1_lineOf_75 ⟨rfl, h⟩
  · replace h := h.2.2 hq
    clear hq
    refine a_iconst (pc := 9) a dX1_lineOf_9 ?_
    exact e_i (pc := 10) a hr dX1_lineOf_10 ⟨rfl, h⟩
