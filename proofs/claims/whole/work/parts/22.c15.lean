set_option maxRecDepth 100000 in
set_option maxHeartbeats 4000000 in
theorem c_X1_seeAllShown {l : Launch} {D : va_G} {X : XI} {ad : Nat → Nat} (hinj : adI ad) (hl0 : l.stackTraces = false) {b : Nat} {q1 : Nat} (tb : tyc b (5, 0)) (tq1 : tyc q1 (7, 0)) {σ : St} {K : St → Prop} (h : f_X1_seeAllShown b q1 σ K) (sz : Nat) : Met l yX1_seeAllShown (WW (.code yX1_seeAllShown cX1_seeAllShown 3 none)) { frames := 2, cells := 0, slots := 0, locals := 44 } (va_Pc [Value.ref (ad b), Value.ref (ad q1)] (WD D X ad σ sz)) (QV D X ad sz K) 0 0 (AA ad sz) := by
  refine a_start (cc := cX1_seeAllShown) (maxL := 3) (ret := none) (own := RX1) [Value.ref (ad b), Value.ref (ad q1)] (by decide) rfl rfl (Nat.le_of_ble_eq_true rfl) hinj hl0 ?_
  intro p e s m below meth c a hr hsz
  subst hsz
  have hts := a.1.2.2.2.2
  have w1 := hts (Cond.fieldLink RX1 64 "SightLegend$Legend" "shownCount" "I") (List.mem_cons_of_mem _ (GL_16 _ (by decide +kernel)))
  have w2 : ∀ w ∈ u_ws RX1 TX1 12, w ∈ WW (.code yX1_seeAllShown cX1_seeAllShown 3 none) := fun w h => List.mem_cons_of_mem _ (inlX1 w h)
  have w3 := hts (Cond.fieldLink RX1 9 "SightLegend$Legend" "shown" "[Z") (List.mem_cons_of_mem _ (GL_3 _ (by decide +kernel)))
  have w4 : tyc (b + 1) (1, 40) := ty_of (d := 1) (t1 := (1, 40)) (by decide +kernel) rfl tb
  have w5 := hts (Cond.fieldLink RX1 67 "SightLegend$MapState" "signCount" "I") (List.mem_cons_of_mem _ (GL_16 _ (by decide +kernel)))
  have w6 : ∀ w ∈ u_ws RX3 TX3 13, w ∈ WW (.code yX1_seeAllShown cX1_seeAllShown 3 none) := fun w h => List.mem_cons_of_mem _ (inlX3 w h)
  have w7 := hts (Cond.fieldLink RX1 15 "SightLegend$Legend" "inSight" "[Z") (List.mem_cons_of_mem _ (GL_3 _ (by decide +kernel)))
  have w8 : tyc (b + 2) (1, 40) := ty_of (d := 2) (t1 := (1, 40)) (by decide +kernel) rfl tb
  unfold f_X1_seeAllShown at h
  refine a_sub (ls1 := [(0, Value.ref (ad b)), (1, Value.ref (ad q1))]) [0, 1] rfl ?_
  refine a_aload_n (pc := 0) a 0 dX1_seeAllShown_0 rfl rfl ?_
  refine a_iconst (pc := 1) a dX1_seeAllShown_1 ?_
  refine a_putI (pc := 2) a 3 3 rfl tb vc1 w2 w1 (by decide) (by decide) tyX1 tyX1_ok nmX1 rfl rfl (by decide +kernel) dX1_seeAllShown_2 ?_
  refine a_nmS (fun s1 hx => ?_)
  replace h := h s1 hx
  clear hx
  refine a_iconst (pc := 5) a dX1_seeAllShown_5 ?_
  refine a_istore_n (pc := 6) a (ls1 := [(2, vI 0), (0, Value.ref (ad b)), (1, Value.ref (ad q1))]) dX1_seeAllShown_6 rfl (by decide) rfl ?_
  refine a_sub (ls1 := [(0, Value.ref (ad b)), (1, Value.ref (ad q1)), (2, vI 0)]) [1, 2, 0] rfl ?_
  refine g_wl1s (fun x2 => [(0, Value.ref (ad b)), (1, Value.ref (ad q1)), (2, vI x2)]) h ?_
  clear h
  intro x2 s3 ag7 hag7 h
  refine a_iload_n (pc := 7) a 2 dX1_seeAllShown_7 rfl rfl ?_
  refine a_bipush (pc := 8) a dX1_seeAllShown_8 (by decide) ?_
  refine a_icmp_ge (pc := 10) a h.1 ⟨by decide, by decide⟩ dX1_seeAllShown_10 (tgt := 81) (by decide) (fun hq => ?_) (fun hq => ?_)
  · replace h := h.2.1 hq
    clear hq
    exact e_v (pc := 81) a hr dX1_seeAllShown_81 h
  · replace h := h.2.2 hq
    clear hq
    refine a_aload_n (pc := 13) a 0 dX1_seeAllShown_13 rfl rfl ?_
    refine a_getR (pc := 14) a 1 1 rfl tb vc1 w2 w3 (by decide) (by decide) 1 (q := (b + 1)) rfl rfl dX1_seeAllShown_14 ?_
    refine a_iload_n (pc := 17) a 2 dX1_seeAllShown_17 rfl rfl ?_
    refine a_iload_n (pc := 18) a 2 dX1_seeAllShown_18 rfl rfl ?_
    refine a_aload_n (pc := 19) a 1 dX1_seeAllShown_19 rfl rfl ?_
    refine a_getI (pc := 20) a 5 5 rfl tq1 vc3 w6 w5 (by decide) (by decide) rfl dX1_seeAllShown_20 ?_
    refine g_wj1 39 0 0 (fun x7 => [(0, Value.ref (ad b)), (1, Value.ref (ad q1)), (2, vI x2)]) (fun x7 => [vI x7, vI x2, Value.ref (ad (b + 1))]) h ?_ ?_
    · clear h
      intro x7 h
      refine a_zast (pc := 39) a w4 (by decide) h.1 h.2.1 dX1_seeAllShown_39 ?_
      replace h := h.2.2
      refine a_nmS (fun s8 hx => ?_)
      replace h := h s8 hx
      clear hx
      refine a_aload_n (pc := 40) a 0 dX1_seeAllShown_40 rfl rfl ?_
      refine a_getR (pc := 41) a 2 2 rfl tb vc1 w2 w7 (by decide) (by decide) 2 (q := (b + 2)) rfl rfl dX1_seeAllShown_41 ?_
      refine a_iload_n (pc := 44) a 2 dX1_seeAllShown_44 rfl rfl ?_
      refine a_aload_n (pc := 45) a 0 dX1_seeAllShown_45 rfl rfl ?_
      refine a_getR (pc := 46) a 1 1 rfl tb vc1 w2 w3 (by decide) (by decide) 1 (q := (b + 1)) rfl rfl dX1_seeAllShown_46 ?_
      refine a_iload_n (pc := 49) a 2 dX1_seeAllShown_49 rfl rfl ?_
      refine a_zald (pc := 50) a w4 (by decide) h.1 dX1_seeAllShown_50 ?_
      replace h := h.2
      refine a_zast (pc := 51) a w8 (by decide) h.1 h.2.1 dX1_seeAllShown_51 ?_
      replace h := h.2.2
      refine a_nmS (fun s9 hx => ?_)
      replace h := h s9 hx
      clear hx
      refine a_aload_n (pc := 52) a 0 dX1_seeAllShown_52 rfl rfl ?_
      refine a_dup (pc := 53) a rfl dX1_seeAllShown_53 ?_
      refine a_getI (pc := 54) a 3 3 rfl tb vc1 w2 w1 (by decide) (by decide) rfl dX1_seeAllShown_54 ?_
      refine a_aload_n (pc := 57) a 0 dX1_seeAllShown_57 rfl rfl ?_
      refine a_getR (pc := 58) a 1 1 rfl tb vc1 w2 w3 (by decide) (by decide) 1 (q := (b + 1)) rfl rfl dX1_seeAllShown_58 ?_
      refine a_iload_n (pc := 61) a 2 dX1_seeAllShown_61 rfl rfl ?_
      refine a_zald (pc := 62) a w4 (by decide) h.1 dX1_seeAllShown_62 ?_
      replace h := h.2
      refine a_if_eq (pc := 63) a h.1 dX1_seeAllShown_63 (tgt := 70) (by decide) (fun hq => ?_) (fun hq => ?_)
      · replace h := h.2.1 hq
        clear hq
        refine a_iconst (pc := 70) a dX1_seeAllShown_70 ?_
        refine a_iadd (pc := 71) a dX1_seeAllShown_71 ?_
        refine a_putI (pc := 72) a 3 3 rfl tb vc1 w2 w1 (by decide) (by decide) tyX1 tyX1_ok nmX1 rfl rfl (by decide +kernel) dX1_seeAllShown_72 ?_
        refine a_nmS (fun s10 hx => ?_)
        replace h := h s10 hx
        clear hx
        refine a_iinc (pc := 75) a (ls1 := [(2, vI (x2 + 1)), (0, Value.ref (ad b)), (1, Value.ref (ad q1))]) 2 dX1_seeAllShown_75 rfl (by decide) rfl ?_
        refine a_goto (pc := 78) a dX1_seeAllShown_78 (tgt := 7) (by decide) ?_
        refine a_sub (ls1 := [(0, Value.ref (ad b)), (1, Value.ref (ad q1)), (2, vI (x2 + 1))]) [1, 2, 0] rfl ?_
        exact hag7 (x2 + 1) s10 h
      · replace h := h.2.2 hq
        clear hq
        refine a_iconst (pc := 66) a dX1_seeAllShown_66 ?_
        refine a_goto (pc := 67) a dX1_seeAllShown_67 (tgt := 71) (by decide) ?_
        refine a_iadd (pc := 71) a dX1_seeAllShown_71 ?_
        refine a_putI (pc := 72) a 3 3 rfl tb vc1 w2 w1 (by decide) (by decide) tyX1 tyX1_ok nmX1 rfl rfl (by decide +kernel) dX1_seeAllShown_72 ?_
        refine a_nmS (fun s11 hx => ?_)
        replace h := h s11 hx
        clear hx
        refine a_iinc (pc := 75) a (ls1 := [(2, vI (x2 + 1)), (0, Value.ref (ad b)), (1, Value.ref (ad q1))]) 2 dX1_seeAllShown_75 rfl (by decide) rfl ?_
        refine a_goto (pc := 78) a dX1_seeAllShown_78 (tgt := 7) (by decide) ?_
        refine a_sub (ls1 := [(0, Value.ref (ad b)), (1, Value.ref (ad q1)), (2, vI (x2 + 1))]) [1, 2, 0] rfl ?_
        exact hag7 (x2 + 1) s11 h
    · clear h
      intro jj39 hjj39 h
      refine g_wj0 38 0 0 [(0, Value.ref (ad b)), (1, Value.ref (ad q1)), (2, vI x2)] [vI x2, Value.ref (ad (b + 1))] h ?_ ?_
      · clear h
        intro  h
        refine a_iconst (pc := 38) a dX1_seeAllShown_38 ?_
        exact hjj39 0 h
      · clear h
        intro jj38 hjj38 h
        refine a_icmp_ge (pc := 23) a h.1 h.2.1 dX1_seeAllShown_23 (tgt := 38) (by decide) (fun hq => ?_) (fun hq => ?_)
        · replace h := h.2.2.1 hq
          clear hq
          exact hjj38  h
        · replace h := h.2.2.2 hq
          clear hq
          refine a_aload_n (pc := 26) a 1 dX1_seeAllShown_26 rfl rfl ?_
          refine a_iload_n (pc := 27) a 2 dX1_seeAllShown_27 rfl rfl ?_
          refine a_cvi (pc := 28) a (As := [vI x2]) (rest := [vI x2, Value.ref (ad (b + 1))]) tq1 vc3 (fun sz => c_X3_isShown hinj hl0 tq1 h sz) (cwV 1 hts (gl_V (GL_16 _ (by decide +kernel)) (GL_11 _ (by decide +kernel)) (GL_11 _ (by decide +kernel)) (GL_1 _ (by decide +kernel)) (GL_11 _ (by decide +kernel))) rfl rfl rfl (by decide +kernel) ⟨Nat.le_of_ble_eq_true rfl, Nat.le_of_ble_eq_true rfl⟩) rfl rfl (Nat.le_of_ble_eq_true rfl) ⟨Nat.le_of_ble_eq_true rfl, Nat.le_of_ble_eq_true rfl⟩ dX1_seeAllShown_28 ?_
          rintro x6 s9 ⟨hs9, h9⟩
          subst s9
          replace h := h9
          clear h9
          refine a_if_eq (pc := 31) a h.1 dX1_seeAllShown_31 (tgt := 38) (by decide) (fun hq => ?_) (fun hq => ?_)
          · replace h := h.2.1 hq
            clear hq
            exact hjj38  h
          · replace h := h.2.2 hq
            clear hq
            refine a_iconst (pc := 34) a dX1_seeAllShown_34 ?_
            refine a_goto (pc := 35) a dX1_seeAllShown_35 (tgt := 39) (by decide) ?_
            exact hjj39 1 h

set_option maxRecDepth 100000 in
set_option maxHeartbeats 4000000 in
theorem c_X1_hideCovered {l : Launch} {D : va_G} {X : XI} {ad : Nat → Nat} (hinj : adI ad) (hl0 : l.stackTraces = false) {b : Nat} {q1 : Nat} (tb : tyc b (5, 0)) (tq1 : tyc q1 (7, 0)) {σ : St} {K : St → Prop} (h : f_X1_hideCovered b q1 σ K) (sz : Nat) : Met l yX1_hideCovered (WW (.code yX1_hideCovered cX1_hideCovered 3 none)) { frames := 1, cells := 0, slots := 0, locals := 24 } (va_Pc [Value.ref (ad b), Value.ref (ad q1)] (WD D X ad σ sz)) (QV D X ad sz K) 0 0 (AA ad sz) := by
  refine a_start (cc := cX1_hideCovered) (maxL := 3) (ret := none) (own := RX1) [Value.ref (ad b), Value.ref (ad q1)] (by decide) rfl rfl (Nat.le_of_ble_eq_true rfl) hinj hl0 ?_
  intro p e s m below meth c a hr hsz
  subst hsz
  have hts := a.1.2.2.2.2
  have w1 := hts (Cond.fieldLink RX1 15 "SightLegend$Legend" "inSight" "[Z") (List.mem_cons_of_mem _ (GL_3 _ (by decide +kernel)))
  have w2 : ∀ w ∈ u_ws RX1 TX1 12, w ∈ WW (.code yX1_hideCovered cX1_hideCovered 3 none) := fun w h => List.mem_cons_of_mem _ (inlX1 w h)
  have w3 : tyc (b + 2) (1, 40) := ty_of (d := 2) (t1 := (1, 40)) (by decide +kernel) rfl tb
  have w4 := hts (Cond.fieldLink RX1 9 "SightLegend$Legend" "shown" "[Z") (List.mem_cons_of_mem _ (GL_3 _ (by decide +kernel)))
  have w5 : tyc (b + 1) (1, 40) := ty_of (d := 1) (t1 := (1, 40)) (by decide +kernel) rfl tb
  have w6 := hts (Cond.fieldLink RX1 38 "SightLegend$Legend" "box" "LSightLegend$Box;") (List.mem_cons_of_mem _ (GL_3 _ (by decide +kernel)))
  have w7 : tyc (b + 32) (4, 0) := ty_of (d := 32) (t1 := (4, 0)) (by decide +kernel) rfl tb
  unfold f_X1_hideCovered at h
  refine a_sub (ls1 := [(0, Value.ref (ad b)), (1, Value.ref (ad q1))]) [0, 1] rfl ?_
  refine a_iconst (pc := 0) a dX1_hideCovered_0 ?_
  refine a_istore_n (pc := 1) a (ls1 := [(2, vI 0), (0, Value.ref (ad b)), (1, Value.ref (ad q1))]) dX1_hideCovered_1 rfl (by decide) rfl ?_
  refine a_sub (ls1 := [(0, Value.ref (ad b)), (1, Value.ref (ad q1)), (2, vI 0)]) [1, 2, 0] rfl ?_
  refine g_wl1s (fun x1 => [(0, Value.ref (ad b)), (1, Value.ref (ad q1)), (2, vI x1)]) h ?_
  clear h
  intro x1 s2 ag2 hag2 h
  refine a_iload_n (pc := 2) a 2 dX1_hideCovered_2 rfl rfl ?_
  refine a_bipush (pc := 3) a dX1_hideCovered_3 (by decide) ?_
  refine a_icmp_ge (pc := 5) a h.1 ⟨by decide, by decide⟩ dX1_hideCovered_5 (tgt := 46) (by decide) (fun hq => ?_) (fun hq => ?_)
  · replace h := h.2.1 hq
    clear hq
    exact e_v (pc := 46) a hr dX1_hideCovered_46 h
  · replace h := h.2.2 hq
    clear hq
    refine a_aload_n (pc := 8) a 0 dX1_hideCovered_8 rfl rfl ?_
    refine a_getR (pc := 9) a 2 2 rfl tb vc1 w2 w1 (by decide) (by decide) 2 (q := (b + 2)) rfl rfl dX1_hideCovered_9 ?_
    refine a_iload_n (pc := 12) a 2 dX1_hideCovered_12 rfl rfl ?_
    refine a_aload_n (pc := 13) a 0 dX1_hideCovered_13 rfl rfl ?_
    refine a_getR (pc := 14) a 1 1 rfl tb vc1 w2 w4 (by decide) (by decide) 1 (q := (b + 1)) rfl rfl dX1_hideCovered_14 ?_
    refine a_iload_n (pc := 17) a 2 dX1_hideCovered_17 rfl rfl ?_
    refine a_zald (pc := 18) a w5 (by decide) h.1 dX1_hideCovered_18 ?_
    replace h := h.2
    refine a_if_eq (pc := 19) a h.1 dX1_hideCovered_19 (tgt := 38) (by decide) (fun hq => ?_) (fun hq => ?_)
    · replace h := h.2.1 hq
      clear hq
      refine a_iconst (pc := 38) a dX1_hideCovered_38 ?_
      refine a_zast (pc := 39) a w3 (by decide) h.1 (by decide) dX1_hideCovered_39 ?_
      replace h := h.2
      refine a_nmS (fun s3 hx => ?_)
      replace h := h s3 hx
      clear hx
      refine a_iinc (pc := 40) a (ls1 := [(2, vI (x1 + 1)), (0, Value.ref (ad b)), (1, Value.ref (ad q1))]) 2 dX1_hideCovered_40 rfl (by decide) rfl ?_
      refine a_goto (pc := 43) a dX1_hideCovered_43 (tgt := 2) (by decide) ?_
      refine a_sub (ls1 := [(0, Value.ref (ad b)), (1, Value.ref (ad q1)), (2, vI (x1 + 1))]) [1, 2, 0] rfl ?_
      exact hag2 (x1 + 1) s3 h
    · replace h := h.2.2 hq
      clear hq
      refine a_aload_n (pc := 22) a 0 dX1_hideCovered_22 rfl rfl ?_
      refine a_getR (pc := 23) a 8 8 rfl tb vc1 w2 w6 (by decide) (by decide) 32 (q := (b + 32)) rfl rfl dX1_hideCovered_23 ?_
      refine a_aload_n (pc := 26) a 1 dX1_hideCovered_26 rfl rfl ?_
      refine a_iload_n (pc := 27) a 2 dX1_hideCovered_27 rfl rfl ?_
      refine a_cvi (pc := 28) a (As := [Value.ref (ad q1), vI x1]) (rest := [vI x1, Value.ref (ad (b + 2))]) w7 vc0 (fun sz => c_X0_covers hinj hl0 w7 tq1 h sz) (cwV 2 hts (gl_V (GL_16 _ (by decide +kernel)) (GL_16 _ (by decide +kernel)) (GL_16 _ (by decide +kernel)) (GL_3 _ (by decide +kernel)) (GL_16 _ (by decide +kernel))) rfl rfl rfl (by decide +kernel) ⟨Nat.le_of_ble_eq_true rfl, Nat.le_of_ble_eq_true rfl⟩) rfl rfl (Nat.le_of_ble_eq_true rfl) ⟨Nat.le_of_ble_eq_true rfl, Nat.le_of_ble_eq_true rfl⟩ dX1_hideCovered_28 ?_
      rintro x4 s9 ⟨hs9, h9⟩
      subst s9
      replace h := h9
      clear h9
      refine a_if_ne (pc := 31) a h.1 dX1_hideCovered_31 (tgt := 38) (by decide) (fun hq => ?_) (fun hq => ?_)
      · replace h := h.2.1 hq
        clear hq
        refine a_iconst (pc := 38) a dX1_hideCovered_38 ?_
        refine a_zast (pc := 39) a w3 (by decide) h.1 (by decide) dX1_hideCovered_39 ?_
        replace h := h.2
        refine a_nmS (fun s5 hx => ?_)
        replace h := h s5 hx
        clear hx
        refine a_iinc (pc := 40) a (ls1 := [(2, vI (x1 + 1)), (0, Value.ref (ad b)), (1, Value.ref (ad q1))]) 2 dX1_hideCovered_40 rfl (by decide) rfl ?_
        refine a_goto (pc := 43) a dX1_hideCovered_43 (tgt := 2) (by decide) ?_
        refine a_sub (ls1 := [(0, Value.ref (ad b)), (1, Value.ref (ad q1)), (2, vI (x1 + 1))]) [1, 2, 0] rfl ?_
        exact hag2 (x1 + 1) s5 h
      · replace h := h.2.2 hq
        clear hq
        refine a_iconst (pc := 34) a dX1_hideCovered_34 ?_
        refine a_goto (pc := 35) a dX1_hideCovered_35 (tgt := 39) (by decide) ?_
        refine a_zast (pc := 39) a w3 (by decide) h.1 (by decide) dX1_hideCovered_39 ?_
        replace h := h.2
        refine a_nmS (fun s6 hx => ?_)
        replace h := h s6 hx
        clear hx
        refine a_iinc (pc := 40) a (ls1 := [(2, vI (x1 + 1)), (0, Value.ref (ad b)), (1, Value.ref (ad q1))]) 2 dX1_hideCovered_40 rfl (by decide) rfl ?_
        refine a_goto (pc := 43) a dX1_hideCovered_43 (tgt := 2) (by decide) ?_
        refine a_sub (ls1 := [(0, Value.ref (ad b)), (1, Value.ref (ad q1)), (2, vI (x1 + 1))]) [1, 2, 0] rfl ?_
        exact hag2 (x1 + 1) s6 h

set_option maxRecDepth 100000 in
set_option maxHeartbeats 4000000 in
theorem c_X1_makeRound {l : Launch} {D : va_G} {X : XI} {ad : Nat → Nat} (hinj : adI ad) (hl0 : l.stackTraces = false) {b : Nat} {q1 : Nat} {p2 : Int} (tb : tyc b (5, 0)) (tq1 : tyc q1 (7, 0)) {σ : St} {K : St → Prop} (h : f_X1_makeRound b q1 p2 σ K) (sz : Nat) : Met l yX1_makeRound (WW (.code yX1_makeRound cX1_makeRound 3 none)) { frames := 4, cells := 0, slots := 0, locals := 103 } (va_Pc [Value.ref (ad b), Value.ref (ad q1), vI p2] (WD D X ad σ sz)) (QV D X ad sz K) 0 0 (AA ad sz) := by
  refine a_start (cc := cX1_makeRound) (maxL := 3) (ret := none) (own := RX1) [Value.ref (ad b), Value.ref (ad q1), vI p2] (by decide) rfl rfl (Nat.le_of_ble_eq_true rfl) hinj hl0 ?_
  intro p e s m below meth c a hr hsz
  subst hsz
  have hts := a.1.2.2.2.2
  have w1 := hts (Cond.fieldLink RX1 32 "SightLegend$Legend" "before" "LSightLegend$Lines;") (List.mem_cons_of_mem _ (GL_3 _ (by decide +kernel)))
  have w2 : ∀ w ∈ u_ws RX1 TX1 12, w ∈ WW (.code yX1_makeRound cX1_makeRound 3 none) := fun w h => List.mem_cons_of_mem _ (inlX1 w h)
  have w3 : tyc (b + 21) (6, 0) := ty_of (d := 21) (t1 := (6, 0)) (by decide +kernel) rfl tb
  have w4 := hts (Cond.fieldLink RX1 28 "SightLegend$Legend" "now" "LSightLegend$Lines;") (List.mem_cons_of_mem _ (GL_3 _ (by decide +kernel)))
  have w5 : tyc (b + 10) (6, 0) := ty_of (d := 10) (t1 := (6, 0)) (by decide +kernel) rfl tb
  have w6 := hts (Cond.fieldLink RX1 21 "SightLegend$Legend" "ranges" "LSightLegend$Ranges;") (List.mem_cons_of_mem _ (GL_3 _ (by decide +kernel)))
  have w7 : tyc (b + 3) (8, 0) := ty_of (d := 3) (t1 := (8, 0)) (by decide +kernel) rfl tb
  have w8 := hts (Cond.fieldLink RX1 15 "SightLegend$Legend" "inSight" "[Z") (List.mem_cons_of_mem _ (GL_3 _ (by decide +kernel)))
  have w9 : tyc (b + 2) (1, 40) := ty_of (d := 2) (t1 := (1, 40)) (by decide +kernel) rfl tb
  have w10 := hts (Cond.fieldLink RX1 92 "SightLegend$MapState" "settings" "[I") (List.mem_cons_of_mem _ (GL_17 _ (by decide +kernel)))
  have w11 : ∀ w ∈ u_ws RX3 TX3 13, w ∈ WW (.code yX1_makeRound cX1_makeRound 3 none) := fun w h => List.mem_cons_of_mem _ (inlX3 w h)
  have w12 : tyc (q1 + 12) (0, 4) := ty_of (d := 12) (t1 := (0, 4)) (by decide +kernel) rfl tq1
  have w13 := hts (Cond.fieldLink RX1 38 "SightLegend$Legend" "box" "LSightLegend$Box;") (List.mem_cons_of_mem _ (GL_3 _ (by decide +kernel)))
  have w14 : tyc (b + 32) (4, 0) := ty_of (d := 32) (t1 := (4, 0)) (by decide +kernel) rfl tb
  have w15 := hts (Cond.fieldLink RX1 9 "SightLegend$Legend" "shown" "[Z") (List.mem_cons_of_mem _ (GL_3 _ (by decide +kernel)))
  have w16 : tyc (b + 1) (1, 40) := ty_of (d := 1) (t1 := (1, 40)) (by decide +kernel) rfl tb
  have w17 := hts (Cond.fieldLink RX1 104 "SightLegend$Legend" "roundCount" "I") (List.mem_cons_of_mem _ (GL_17 _ (by decide +kernel)))
  have w18 := hts (Cond.fieldLink RX1 50 "SightLegend$Legend" "stays" "Z") (List.mem_cons_of_mem _ (GL_16 _ (by decide +kernel)))
  have w19 := hts (Cond.fieldLink RX1 107 "SightLegend$Lines" "size" "I") (List.mem_cons_of_mem _ (GL_17 _ (by decide +kernel)))
  have w20 : ∀ w ∈ u_ws RX2 TX2 14, w ∈ WW (.code yX1_makeRound cX1_makeRound 3 none) := fun w h => List.mem_cons_of_mem _ (inlX2 w h)
  have w21 := hts (Cond.fieldLink RX1 110 "SightLegend$Legend" "firstLineCount" "I") (List.mem_cons_of_mem _ (GL_17 _ (by decide +kernel)))
  unfold f_X1_makeRound at h
  refine a_sub (ls1 := [(0, Value.ref (ad b)), (1, Value.ref (ad q1)), (2, vI p2)]) [0, 1, 2] rfl ?_
  refine a_aload_n (pc := 0) a 0 dX1_makeRound_0 rfl rfl ?_
  refine a_getR (pc := 1) a 7 7 rfl tb vc1 w2 w1 (by decide) (by decide) 21 (q := (b + 21)) rfl rfl dX1_makeRound_1 ?_
  refine a_aload_n (pc := 4) a 0 dX1_makeRound_4 rfl rfl ?_
  refine a_getR (pc := 5) a 6 6 rfl tb vc1 w2 w4 (by decide) (by decide) 10 (q := (b + 10)) rfl rfl dX1_makeRound_5 ?_
  refine a_cvv (pc := 8) a (As := [Value.ref (ad (b + 10))]) (rest := []) w3 vc2 (fun sz => c_X2_copyFrom hinj hl0 w3 w5 h sz) (cwV 1 hts (gl_V (GL_17 _ (by decide +kernel)) (GL_17 _ (by decide +kernel)) (GL_17 _ (by decide +kernel)) (GL_3 _ (by decide +kernel)) (GL_17 _ (by decide +kernel))) rfl rfl rfl (by decide +kernel) ⟨Nat.le_of_ble_eq_true rfl, Nat.le_of_ble_eq_true rfl⟩) rfl rfl (Nat.le_of_ble_eq_true rfl) ⟨Nat.le_of_ble_eq_true rfl, Nat.le_of_ble_eq_true rfl⟩ dX1_makeRound_8 ?_
  clear h
  intro s1 h
  refine a_aload_n (pc := 11) a 0 dX1_makeRound_11 rfl rfl ?_
  refine a_getR (pc := 12) a 5 5 rfl tb vc1 w2 w6 (by decide) (by decide) 3 (q := (b + 3)) rfl rfl dX1_makeRound_12 ?_
  refine a_aload_n (pc := 15) a 1 dX1_makeRound_15 rfl rfl ?_
  refine a_aload_n (pc := 16) a 0 dX1_makeRound_16 rfl rfl ?_
  refine a_getR (pc := 17) a 2 2 rfl tb vc1 w2 w8 (by decide) (by decide) 2 (q := (b + 2)) rfl rfl dX1_makeRound_17 ?_
  refine a_cvv (pc := 20) a (As := [Value.ref (ad q1), Value.ref (ad (b + 2))]) (rest := []) w7 vc4 (fun sz => c_X4_build hinj hl0 w7 tq1 w9 h sz) (cwV 2 hts (gl_V (GL_17 _ (by decide +kernel)) (GL_17 _ (by decide +kernel)) (GL_17 _ (by decide +kernel)) (GL_3 _ (by decide +kernel)) (GL_17 _ (by decide +kernel))) rfl rfl rfl (by decide +kernel) ⟨Nat.le_of_ble_eq_true rfl, Nat.le_of_ble_eq_true rfl⟩) rfl rfl (Nat.le_of_ble_eq_true rfl) ⟨Nat.le_of_ble_eq_true rfl, Nat.le_of_ble_eq_true rfl⟩ dX1_makeRound_20 ?_
  clear h
  intro s2 h
  refine a_aload_n (pc := 23) a 0 dX1_makeRound_23 rfl rfl ?_
  refine a_getR (pc := 24) a 6 6 rfl tb vc1 w2 w4 (by decide) (by decide) 10 (q := (b + 10)) rfl rfl dX1_makeRound_24 ?_
  refine a_aload_n (pc := 27) a 1 dX1_makeRound_27 rfl rfl ?_
  refine a_aload_n (pc := 28) a 0 dX1_makeRound_28 rfl rfl ?_
  refine a_getR (pc := 29) a 5 5 rfl tb vc1 w2 w6 (by decide) (by decide) 3 (q := (b + 3)) rfl rfl dX1_makeRound_29 ?_
  refine a_cvv (pc := 32) a (As := [Value.ref (ad q1), Value.ref (ad (b + 3))]) (rest := []) w5 vc2 (fun sz => c_X2_compose hinj hl0 w5 tq1 w7 h sz) (cwV 2 hts (gl_V (GL_18 _ (by decide +kernel)) (GL_18 _ (by decide +kernel)) (GL_18 _ (by decide +kernel)) (GL_3 _ (by decide +kernel)) (GL_18 _ (by decide +kernel))) rfl rfl rfl (by decide +kernel) ⟨Nat.le_of_ble_eq_true rfl, Nat.le_of_ble_eq_true rfl⟩) rfl rfl (Nat.le_of_ble_eq_true rfl) ⟨Nat.le_of_ble_eq_true rfl, Nat.le_of_ble_eq_true rfl⟩ dX1_makeRound_32 ?_
  clear h
  intro s3 h
  refine a_aload_n (pc := 35) a 0 dX1_makeRound_35 rfl rfl ?_
  refine a_getR (pc := 36) a 6 6 rfl tb vc1 w2 w4 (by decide) (by decide) 10 (q := (b + 10)) rfl rfl dX1_makeRound_36 ?_
  refine a_aload_n (pc := 39) a 1 dX1_makeRound_39 rfl rfl ?_
  refine a_getR (pc := 40) a 12 12 rfl tq1 vc3 w11 w10 (by decide) (by decide) 12 (q := (q1 + 12)) rfl rfl dX1_makeRound_40 ?_
  refine a_iconst (pc := 43) a dX1_makeRound_43 ?_
  refine a_iald (pc := 44) a w12 (by decide) (by decide) dX1_makeRound_44 ?_
  refine a_cvv (pc := 45) a (As := [vI (s3 (q1 + 12) 1)]) (rest := []) w5 vc2 (fun sz => c_X2_layOut hinj hl0 w5 h sz) (cwV 1 hts (gl_V (GL_19 _ (by decide +kernel)) (GL_19 _ (by decide +kernel)) (GL_20 _ (by decide +kernel)) (GL_3 _ (by decide +kernel)) (GL_20 _ (by decide +kernel))) rfl rfl rfl (by decide +kernel) ⟨Nat.le_of_ble_eq_true rfl, Nat.le_of_ble_eq_true rfl⟩) rfl rfl (Nat.le_of_ble_eq_true rfl) ⟨Nat.le_of_ble_eq_true rfl, Nat.le_of_ble_eq_true rfl⟩ dX1_makeRound_45 ?_
  clear h
  intro s4 h
  refine a_aload_n (pc := 48) a 0 dX1_makeRound_48 rfl rfl ?_
  refine a_getR (pc := 49) a 8 8 rfl tb vc1 w2 w13 (by decide) (by decide) 32 (q := (b + 32)) rfl rfl dX1_makeRound_49 ?_
  refine a_aload_n (pc := 52) a 1 dX1_makeRound_52 rfl rfl ?_
  refine a_aload_n (pc := 53) a 0 dX1_makeRound_53 rfl rfl ?_
  refine a_getR (pc := 54) a 6 6 rfl tb vc1 w2 w4 (by decide) (by decide) 10 (q := (b + 10)) rfl rfl dX1_makeRound_54 ?_
  refine a_aload_n (pc := 57) a 0 dX1_makeRound_57 rfl rfl ?_
  refine a_getR (pc := 58) a 1 1 rfl tb vc1 w2 w15 (by decide) (by decide) 1 (q := (b + 1)) rfl rfl dX1_makeRound_58 ?_
  refine a_cvv (pc := 61) a (As := [Value.ref (ad q1), Value.ref (ad (b + 10)), Value.ref (ad (b + 1))]) (rest := []) w14 vc0 (fun sz => c_X0_place hinj hl0 w14 tq1 w5 w16 h sz) (cwV 3 hts (gl_V (GL_20 _ (by decide +kernel)) (GL_20 _ (by decide +kernel)) (GL_20 _ (by decide +kernel)) (GL_3 _ (by decide +kernel)) (GL_20 _ (by decide +kernel))) rfl rfl rfl (by decide +kernel) ⟨Nat.le_of_ble_eq_true rfl, Nat.le_of_ble_eq_true rfl⟩) rfl rfl (Nat.le_of_ble_eq_true rfl) ⟨Nat.le_of_ble_eq_true rfl, Nat.le_of_ble_eq_true rfl⟩ dX1_makeRound_61 ?_
  clear h
  intro s5 h
  refine a_aload_n (pc := 64) a 0 dX1_makeRound_64 rfl rfl ?_
  refine a_iload_n (pc := 65) a 2 dX1_makeRound_65 rfl rfl ?_
  refine a_putI (pc := 66) a 9 9 rfl tb vc1 w2 w17 (by decide) (by decide) tyX1 tyX1_ok nmX1 rfl rfl (by decide +kernel) dX1_makeRound_66 ?_
  refine a_nmS (fun s6 hx => ?_)
  replace h := h s6 hx
  clear hx
  refine a_iload_n (pc := 69) a 2 dX1_makeRound_69 rfl rfl ?_
  refine a_iconst (pc := 70) a dX1_makeRound_70 ?_
  refine a_icmp_ne (pc := 71) a h.1 ⟨by decide, by decide⟩ dX1_makeRound_71 (tgt := 88) (by decide) (fun hq => ?_) (fun hq => ?_)
  · replace h := h.2.1 hq
    clear hq
    refine a_aload_n (pc := 88) a 0 dX1_makeRound_88 rfl rfl ?_
    refine a_aload_n (pc := 89) a 0 dX1_makeRound_89 rfl rfl ?_
    refine a_getR (pc := 90) a 6 6 rfl tb vc1 w2 w4 (by decide) (by decide) 10 (q := (b + 10)) rfl rfl dX1_makeRound_90 ?_
    refine a_aload_n (pc := 93) a 0 dX1_makeRound_93 rfl rfl ?_
    refine a_getR (pc := 94) a 7 7 rfl tb vc1 w2 w1 (by decide) (by decide) 21 (q := (b + 21)) rfl rfl dX1_makeRound_94 ?_
    refine a_cvi (pc := 97) a (As := [Value.ref (ad (b + 21))]) (rest := [Value.ref (ad b)]) w5 vc2 (fun sz => c_X2_isSameAs hinj hl0 w5 w3 h sz) (cwV 1 hts (gl_V (GL_21 _ (by decide +kernel)) (GL_21 _ (by decide +kernel)) (GL_21 _ (by decide +kernel)) (GL_3 _ (by decide +kernel)) (GL_21 _ (by decide +kernel))) rfl rfl rfl (by decide +kernel) ⟨Nat.le_of_ble_eq_true rfl, Nat.le_of_ble_eq_true rfl⟩) rfl rfl (Nat.le_of_ble_eq_true rfl) ⟨Nat.le_of_ble_eq_true rfl, Nat.le_of_ble_eq_true rfl⟩ dX1_makeRound_97 ?_
    rintro x7 s9 ⟨hs9, h9⟩
    subst s9
    replace h := h9
    clear h9
    refine a_putZ (pc := 100) a 10 10 rfl tb vc1 w2 w18 (by decide) (by decide) tyX1 tyX1_ok nmX1 h.1 rfl rfl (by decide +kernel) dX1_makeRound_100 ?_
    replace h := h.2
    refine a_nmS (fun s8 hx => ?_)
    replace h := h s8 hx
    clear hx
    exact e_v (pc := 103) a hr dX1_makeRound_103 h
  · replace h := h.2.2 hq
    clear hq
    refine a_aload_n (pc := 74) a 0 dX1_makeRound_74 rfl rfl ?_
    refine a_aload_n (pc := 75) a 0 dX1_makeRound_75 rfl rfl ?_
    refine a_getR (pc := 76) a 6 6 rfl tb vc1 w2 w4 (by decide) (by decide) 10 (q := (b + 10)) rfl rfl dX1_makeRound_76 ?_
    refine a_getI (pc := 79) a 0 0 rfl w5 vc2 w20 w19 (by decide) (by decide) rfl dX1_makeRound_79 ?_
    refine a_putI (pc := 82) a 11 11 rfl tb vc1 w2 w21 (by decide) (by decide) tyX1 tyX1_ok nmX1 rfl rfl (by decide +kernel) dX1_makeRound_82 ?_
    refine a_nmS (fun s9 hx => ?_)
    replace h := h s9 hx
    clear hx
    refine a_goto (pc := 85) a dX1_makeRound_85 (tgt := 103) (by decide) ?_
    exact e_v (pc := 103) a hr dX1_makeRound_103 h

set_option maxRecDepth 100000 in
set_option maxHeartbeats 4000000 in
theorem c_X1_make {l : Launch} {D : va_G} {X : XI} {ad : Nat → Nat} (hinj : adI ad) (hl0 : l.stackTraces = false) {b : Nat} {q1 : Nat} (tb : tyc b (5, 0)) (tq1 : tyc q1 (7, 0)) {σ : St} {K : St → Prop} (h : f_X1_make b q1 σ K) (sz : Nat) : Met l yX1_make (WW (.code yX1_make cX1_make 3 none)) { frames := 5, cells := 0, slots := 0, locals := 125 } (va_Pc [Value.ref (ad b), Value.ref (ad q1)] (WD D X ad σ sz)) (QV D X ad sz K) 0 0 (AA ad sz) := by
  refine a_start (cc := cX1_make) (maxL := 3) (ret := none) (own := RX1) [Value.ref (ad b), Value.ref (ad q1)] (by decide) rfl rfl (Nat.le_of_ble_eq_true rfl) hinj hl0 ?_
  intro p e s m below meth c a hr hsz
  subst hsz
  have hts := a.1.2.2.2.2
  have w1 := hts (Cond.fieldLink RX1 42 "SightLegend$Legend" "stands" "Z") (List.mem_cons_of_mem _ (GL_16 _ (by decide +kernel)))
  have w2 : ∀ w ∈ u_ws RX1 TX1 12, w ∈ WW (.code yX1_make cX1_make 3 none) := fun w h => List.mem_cons_of_mem _ (inlX1 w h)
  have w3 := hts (Cond.fieldLink RX1 50 "SightLegend$Legend" "stays" "Z") (List.mem_cons_of_mem _ (GL_16 _ (by decide +kernel)))
  have w4 := hts (Cond.fieldLink RX1 60 "SightLegend$Legend" "explainedCount" "I") (List.mem_cons_of_mem _ (GL_16 _ (by decide +kernel)))
  have w5 := hts (Cond.fieldLink RX1 15 "SightLegend$Legend" "inSight" "[Z") (List.mem_cons_of_mem _ (GL_3 _ (by decide +kernel)))
  have w6 : tyc (b + 2) (1, 40) := ty_of (d := 2) (t1 := (1, 40)) (by decide +kernel) rfl tb
  unfold f_X1_make at h
  refine a_sub (ls1 := [(0, Value.ref (ad b)), (1, Value.ref (ad q1))]) [0, 1] rfl ?_
  refine a_aload_n (pc := 0) a 0 dX1_make_0 rfl rfl ?_
  refine a_getI (pc := 1) a 0 0 rfl tb vc1 w2 w1 (by decide) (by decide) rfl dX1_make_1 ?_
  refine a_if_eq (pc := 4) a h.1 dX1_make_4 (tgt := 8) (by decide) (fun hq => ?_) (fun hq => ?_)
  · replace h := h.2.1 hq
    clear hq
    refine a_aload_n (pc := 8) a 0 dX1_make_8 rfl rfl ?_
    refine a_aload_n (pc := 9) a 1 dX1_make_9 rfl rfl ?_
    refine a_cvv (pc := 10) a (As := [Value.ref (ad q1)]) (rest := []) tb vc1 (fun sz => c_X1_seeAllShown hinj hl0 tb tq1 h sz) (cwV 1 hts (gl_V (GL_16 _ (by decide +kernel)) (GL_16 _ (by decide +kernel)) (GL_16 _ (by decide +kernel)) (GL_1 _ (by decide +kernel)) (GL_16 _ (by decide +kernel))) rfl rfl rfl (by decide +kernel) ⟨Nat.le_of_ble_eq_true rfl, Nat.le_of_ble_eq_true rfl⟩) rfl rfl (Nat.le_of_ble_eq_true rfl) ⟨Nat.le_of_ble_eq_true rfl, Nat.le_of_ble_eq_true rfl⟩ dX1_make_10 ?_
    clear h
    intro s1 h
    refine a_aload_n (pc := 13) a 0 dX1_make_13 rfl rfl ?_
    refine a_iconst (pc := 14) a dX1_make_14 ?_
    refine a_putZ (pc := 15) a 10 10 rfl tb vc1 w2 w3 (by decide) (by decide) tyX1 tyX1_ok nmX1 (by decide) rfl rfl (by decide +kernel) dX1_make_15 ?_
    refine a_nmS (fun s2 hx => ?_)
    replace h := h s2 hx
    clear hx
    refine a_iconst (pc := 18) a dX1_make_18 ?_
    refine a_istore_n (pc := 19) a (ls1 := [(2, vI 1), (0, Value.ref (ad b)), (1, Value.ref (ad q1))]) dX1_make_19 rfl (by decide) rfl ?_
    refine a_sub (ls1 := [(0, Value.ref (ad b)), (1, Value.ref (ad q1)), (2, vI 1)]) [1, 2, 0] rfl ?_
    refine g_wl1s (fun x3 => [(0, Value.ref (ad b)), (1, Value.ref (ad q1)), (2, vI x3)]) h ?_
    clear h
    intro x3 s4 ag20 hag20 h
    refine a_iload_n (pc := 20) a 2 dX1_make_20 rfl rfl ?_
    refine a_bipush (pc := 21) a dX1_make_21 (by decide) ?_
    refine g_wj0 55 0 0 [(0, Value.ref (ad b))] [] h ?_ ?_
    · clear h
      intro  h
      refine a_aload_n (pc := 55) a 0 dX1_make_55 rfl rfl ?_
      refine a_iconst (pc := 56) a dX1_make_56 ?_
      refine a_putI (pc := 57) a 4 4 rfl tb vc1 w2 w4 (by decide) (by decide) tyX1 tyX1_ok nmX1 rfl rfl (by decide +kernel) dX1_make_57 ?_
      refine a_nmS (fun s10 hx => ?_)
      replace h := h s10 hx
      clear hx
      refine a_iconst (pc := 60) a dX1_make_60 ?_
      refine a_istore_n (pc := 61) a (ls1 := [(2, vI 0), (0, Value.ref (ad b))]) dX1_make_61 rfl (by decide) rfl ?_
      refine a_sub (ls1 := [(0, Value.ref (ad b)), (2, vI 0)]) [1, 0] rfl ?_
      refine g_wl1s (fun x11 => [(0, Value.ref (ad b)), (2, vI x11)]) h ?_
      clear h
      intro x11 s12 ag62 hag62 h
      refine a_iload_n (pc := 62) a 1 dX1_make_62 rfl rfl ?_
      refine a_bipush (pc := 63) a dX1_make_63 (by decide) ?_
      refine a_icmp_ge (pc := 65) a h.1 ⟨by decide, by decide⟩ dX1_make_65 (tgt := 97) (by decide) (fun hq => ?_) (fun hq => ?_)
      · replace h := h.2.1 hq
        clear hq
        refine a_aload_n (pc := 97) a 0 dX1_make_97 rfl rfl ?_
        refine a_iconst (pc := 98) a dX1_make_98 ?_
        refine a_putZ (pc := 99) a 0 0 rfl tb vc1 w2 w1 (by decide) (by decide) tyX1 tyX1_ok nmX1 (by decide) rfl rfl (by decide +kernel) dX1_make_99 ?_
        refine a_nmS (fun s13 hx => ?_)
        replace h := h s13 hx
        clear hx
        exact e_v (pc := 102) a hr dX1_make_102 h
      · replace h := h.2.2 hq
        clear hq
        refine a_aload_n (pc := 68) a 0 dX1_make_68 rfl rfl ?_
        refine a_dup (pc := 69) a rfl dX1_make_69 ?_
        refine a_getI (pc := 70) a 4 4 rfl tb vc1 w2 w4 (by decide) (by decide) rfl dX1_make_70 ?_
        refine a_aload_n (pc := 73) a 0 dX1_make_73 rfl rfl ?_
        refine a_getR (pc := 74) a 2 2 rfl tb vc1 w2 w5 (by decide) (by decide) 2 (q := (b + 2)) rfl rfl dX1_make_74 ?_
        refine a_iload_n (pc := 77) a 1 dX1_make_77 rfl rfl ?_
        refine a_zald (pc := 78) a w6 (by decide) h.1 dX1_make_78 ?_
        replace h := h.2
        refine a_if_eq (pc := 79) a h.1 dX1_make_79 (tgt := 86) (by decide) (fun hq => ?_) (fun hq => ?_)
        · replace h := h.2.1 hq
          clear hq
          refine a_iconst (pc := 86) a dX1_make_86 ?_
          refine a_iadd (pc := 87) a dX1_make_87 ?_
          refine a_putI (pc := 88) a 4 4 rfl tb vc1 w2 w4 (by decide) (by decide) tyX1 tyX1_ok nmX1 rfl rfl (by decide +kernel) dX1_make_88 ?_
          refine a_nmS (fun s14 hx => ?_)
          replace h := h s14 hx
          clear hx
          refine a_iinc (pc := 91) a (ls1 := [(2, vI (x11 + 1)), (0, Value.ref (ad b))]) 1 dX1_make_91 rfl (by decide) rfl ?_
          refine a_goto (pc := 94) a dX1_make_94 (tgt := 62) (by decide) ?_
          refine a_sub (ls1 := [(0, Value.ref (ad b)), (2, vI (x11 + 1))]) [1, 0] rfl ?_
          exact hag62 (x11 + 1) s14 h
        · replace h := h.2.2 hq
          clear hq
          refine a_iconst (pc := 82) a dX1_make_82 ?_
          refine a_goto (pc := 83) a dX1_make_83 (tgt := 87) (by decide) ?_
          refine a_iadd (pc := 87) a dX1_make_87 ?_
          refine a_putI (pc := 88) a 4 4 rfl tb vc1 w2 w4 (by decide) (by decide) tyX1 tyX1_ok nmX1 rfl rfl (by decide +kernel) dX1_make_88 ?_
          refine a_nmS (fun s15 hx => ?_)
          replace h := h s15 hx
          clear hx
          refine a_iinc (pc := 91) a (ls1 := [(2, vI (x11 + 1)), (0, Value.ref (ad b))]) 1 dX1_make_91 rfl (by decide) rfl ?_
          refine a_goto (pc := 94) a dX1_make_94 (tgt := 62) (by decide) ?_
          refine a_sub (ls1 := [(0, Value.ref (ad b)), (2, vI (x11 + 1))]) [1, 0] rfl ?_
          exact hag62 (x11 + 1) s15 h
    · clear h
      intro jj55 hjj55 h
      refine a_icmp_gt (pc := 23) a h.1 ⟨by decide, by decide⟩ dX1_make_23 (tgt := 55) (by decide) (fun hq => ?_) (fun hq => ?_)
      · replace h := h.2.1 hq
        clear hq
        refine a_sub (ls1 := [(0, Value.ref (ad b))]) [0] rfl ?_
        exact hjj55  h
      · replace h := h.2.2 hq
        clear hq
        refine a_aload_n (pc := 26) a 0 dX1_make_26 rfl rfl ?_
        refine a_getI (pc := 27) a 10 10 rfl tb vc1 w2 w3 (by decide) (by decide) rfl dX1_make_27 ?_
        refine a_if_ne (pc := 30) a h.1 dX1_make_30 (tgt := 55) (by decide) (fun hq => ?_) (fun hq => ?_)
        · replace h := h.2.1 hq
          clear hq
          refine a_sub (ls1 := [(0, Value.ref (ad b))]) [0] rfl ?_
          exact hjj55  h
        · replace h := h.2.2 hq
          clear hq
          refine a_iload_n (pc := 33) a 2 dX1_make_33 rfl rfl ?_
          refine a_iconst (pc := 34) a dX1_make_34 ?_
          refine g_wj0s 43 0 0 [(0, Value.ref (ad b)), (1, Value.ref (ad q1)), (2, vI x3)] [] h ?_ ?_
          · clear h
            intro s8 h
            refine a_aload_n (pc := 43) a 0 dX1_make_43 rfl rfl ?_
            refine a_aload_n (pc := 44) a 1 dX1_make_44 rfl rfl ?_
            refine a_iload_n (pc := 45) a 2 dX1_make_45 rfl rfl ?_
            refine a_cvv (pc := 46) a (As := [Value.ref (ad q1), vI x3]) (rest := []) tb vc1 (fun sz => c_X1_makeRound hinj hl0 tb tq1 h sz) (cwV 2 hts (gl_V (GL_17 _ (by decide +kernel)) (GL_17 _ (by decide +kernel)) (GL_17 _ (by decide +kernel)) (GL_1 _ (by decide +kernel)) (GL_17 _ (by decide +kernel))) rfl rfl rfl (by decide +kernel) ⟨Nat.le_of_ble_eq_true rfl, Nat.le_of_ble_eq_true rfl⟩) rfl rfl (Nat.le_of_ble_eq_true rfl) ⟨Nat.le_of_ble_eq_true rfl, Nat.le_of_ble_eq_true rfl⟩ dX1_make_46 ?_
            clear h
            intro s9 h
            refine a_iinc (pc := 49) a (ls1 := [(2, vI (x3 + 1)), (0, Value.ref (ad b)), (1, Value.ref (ad q1))]) 2 dX1_make_49 rfl (by decide) rfl ?_
            refine a_goto (pc := 52) a dX1_make_52 (tgt := 20) (by decide) ?_
            refine a_sub (ls1 := [(0, Value.ref (ad b)), (1, Value.ref (ad q1)), (2, vI (x3 + 1))]) [1, 2, 0] rfl ?_
            exact hag20 (x3 + 1) s9 h
          · clear h
            intro jj43 hjj43 h
            refine a_icmp_le (pc := 35) a h.1 ⟨by decide, by decide⟩ dX1_make_35 (tgt := 43) (by decide) (fun hq => ?_) (fun hq => ?_)
            · replace h := h.2.1 hq
              clear hq
              exact hjj43 s4 h
            · replace h := h.2.2 hq
              clear hq
              refine a_aload_n (pc := 38) a 0 dX1_make_38 rfl rfl ?_
              refine a_aload_n (pc := 39) a 1 dX1_make_39 rfl rfl ?_
              refine a_cvv (pc := 40) a (As := [Value.ref (ad q1)]) (rest := []) tb vc1 (fun sz => c_X1_hideCovered hinj hl0 tb tq1 h sz) (cwV 1 hts (gl_V (GL_16 _ (by decide +kernel)) (GL_16 _ (by decide +kernel)) (GL_16 _ (by decide +kernel)) (GL_1 _ (by decide +kernel)) (GL_16 _ (by decide +kernel))) rfl rfl rfl (by decide +kernel) ⟨Nat.le_of_ble_eq_true rfl, Nat.le_of_ble_eq_true rfl⟩) rfl rfl (Nat.le_of_ble_eq_true rfl) ⟨Nat.le_of_ble_eq_true rfl, Nat.le_of_ble_eq_true rfl⟩ dX1_make_40 ?_
              clear h
              intro s7 h
              exact hjj43 s7 h
  · replace h := h.2.2 hq
    clear hq
    exact e_v (pc := 7) a hr dX1_make_7 h

set_option maxRecDepth 100000 in
set_option maxHeartbeats 4000000 in
theorem c_X1_countCoveredInSight {l : Launch} {D : va_G} {X : XI} {ad : Nat → Nat} (hinj : adI ad) (hl0 : l.stackTraces = false) {b : Nat} {q1 : Nat} (tb : tyc b (5, 0)) (tq1 : tyc q1 (7, 0)) {σ : St} {K : Int → Prop} (h : f_X1_countCoveredInSight b q1 σ K) (sz : Nat) : Met l yX1_countCoveredInSight (WW (.code yX1_countCoveredInSight cX1_countCoveredInSight 2 (some .int))) { frames := 2, cells := 0, slots := 0, locals := 48 } (va_Pc [Value.ref (ad b), Value.ref (ad q1)] (WD D X ad σ sz)) (QI D X ad sz (fun r τ => τ = σ ∧ K r)) 0 0 (AA ad sz) := by
  refine a_start (cc := cX1_countCoveredInSight) (maxL := 2) (ret := (some .int)) (own := RX1) [Value.ref (ad b), Value.ref (ad q1)] (by decide) rfl rfl (Nat.le_of_ble_eq_true rfl) hinj hl0 ?_
  intro p e s m below meth c a hr hsz
  subst hsz
  have hts := a.1.2.2.2.2
  have w1 := hts (Cond.fieldLink RX1 38 "SightLegend$Legend" "box" "LSightLegend$Box;") (List.mem_cons_of_mem _ (GL_3 _ (by decide +kernel)))
  have w2 : ∀ w ∈ u_ws RX1 TX1 12, w ∈ WW (.code yX1_countCoveredInSight cX1_countCoveredInSight 2 (some .int)) := fun w h => List.mem_cons_of_mem _ (inlX1 w h)
  have w3 : tyc (b + 32) (4, 0) := ty_of (d := 32) (t1 := (4, 0)) (by decide +kernel) rfl tb
  have w4 := hts (Cond.fieldLink RX1 15 "SightLegend$Legend" "inSight" "[Z") (List.mem_cons_of_mem _ (GL_3 _ (by decide +kernel)))
  have w5 : tyc (b + 2) (1, 40) := ty_of (d := 2) (t1 := (1, 40)) (by decide +kernel) rfl tb
  unfold f_X1_countCoveredInSight at h
  refine a_sub (ls1 := [(0, Value.ref (ad b)), (1, Value.ref (ad q1))]) [0, 1] rfl ?_
  refine a_aload_n (pc := 0) a 0 dX1_countCoveredInSight_0 rfl rfl ?_
  refine a_getR (pc := 1) a 8 8 rfl tb vc1 w2 w1 (by decide) (by decide) 32 (q := (b + 32)) rfl rfl dX1_countCoveredInSight_1 ?_
  refine a_aload_n (pc := 4) a 1 dX1_countCoveredInSight_4 rfl rfl ?_
  refine a_aload_n (pc := 5) a 0 dX1_countCoveredInSight_5 rfl rfl ?_
  refine a_getR (pc := 6) a 2 2 rfl tb vc1 w2 w4 (by decide) (by decide) 2 (q := (b + 2)) rfl rfl dX1_countCoveredInSight_6 ?_
  refine a_cvi (pc := 9) a (As := [Value.ref (ad q1), Value.ref (ad (b + 2))]) (rest := []) w3 vc0 (fun sz => c_X0_countCovered hinj hl0 w3 tq1 w5 h sz) (cwV 2 hts (gl_V (GL_31 _ (by decide +kernel)) (GL_21 _ (by decide +kernel)) (GL_21 _ (by decide +kernel)) (GL_3 _ (by decide +kernel)) (GL_21 _ (by decide +kernel))) rfl rfl rfl (by decide +kernel) ⟨Nat.le_of_ble_eq_true rfl, Nat.le_of_ble_eq_true rfl⟩) rfl rfl (Nat.le_of_ble_eq_true rfl) ⟨Nat.le_of_ble_eq_true rfl, Nat.le_of_ble_eq_true rfl⟩ dX1_countCoveredInSight_9 ?_
  rintro x1 s9 ⟨hs9, h9⟩
  subst s9
  replace h := h9
  clear h9
  exact e_i (pc := 12) a hr dX1_countCoveredInSight_12 ⟨rfl, h⟩

set_option maxRecDepth 100000 in
set_option maxHeartbeats 4000000 in
theorem c_X1_lineOf {l : Launch} {D : va_G} {X : XI} {ad : Nat → Nat} (hinj : adI ad) (hl0 : l.stackTraces = false) {b : Nat} {q1 : Nat} {p2 : Int} (tb : tyc b (5, 0)) (tq1 : tyc q1 (7, 0)) {σ : St} {K : Int → Prop} (h : f_X1_lineOf b q1 p2 σ K) (sz : Nat) : Met l yX1_lineOf (WW (.code yX1_lineOf cX1_lineOf 6 (some .int))) { frames := 1, cells := 0, slots := 0, locals := 24 } (va_Pc [Value.ref (ad b), Value.ref (ad q1), vI p2] (WD D X ad σ sz)) (QI D X ad sz (fun r τ => τ = σ ∧ K r)) 0 0 (AA ad sz) := by
  refine a_start (cc := cX1_lineOf) (maxL := 6) (ret := (some .int)) (own := RX1) [Value.ref (ad b), Value.ref (ad q1), vI p2] (by decide) rfl rfl (Nat.le_of_ble_eq_true rfl) hinj hl0 ?_
  intro p e s m below meth c a hr hsz
  subst hsz
  have hts := a.1.2.2.2.2
  have w1 := hts (Cond.fieldLink RX1 15 "SightLegend$Legend" "inSight" "[Z") (List.mem_cons_of_mem _ (GL_3 _ (by decide +kernel)))
  have w2 : ∀ w ∈ u_ws RX1 TX1 12, w ∈ WW (.code yX1_lineOf cX1_lineOf 6 (some .int)) := fun w h => List.mem_cons_of_mem _ (inlX1 w h)
  have w3 : tyc (b + 2) (1, 40) := ty_of (d := 2) (t1 := (1, 40)) (by decide +kernel) rfl tb
  have w4 := hts (Cond.fieldLink RX1 121 "SightLegend$MapState" "signKind" "[I") (List.mem_cons_of_mem _ (GL_26 _ (by decide +kernel)))
  have w5 : ∀ w ∈ u_ws RX3 TX3 13, w ∈ WW (.code yX1_lineOf cX1_lineOf 6 (some .int)) := fun w h => List.mem_cons_of_mem _ (inlX3 w h)
  have w6 : tyc (q1 + 1) (0, 40) := ty_of (d := 1) (t1 := (0, 40)) (by decide +kernel) rfl tq1
  have w7 := hts (Cond.fieldLink RX1 28 "SightLegend$Legend" "now" "LSightLegend$Lines;") (List.mem_cons_of_mem _ (GL_3 _ (by decide +kernel)))
  have w8 : tyc (b + 10) (6, 0) := ty_of (d := 10) (t1 := (6, 0)) (by decide +kernel) rfl tb
  have w9 := hts (Cond.fieldLink RX1 107 "SightLegend$Lines" "size" "I") (List.mem_cons_of_mem _ (GL_17 _ (by decide +kernel)))
  have w10 : ∀ w ∈ u_ws RX2 TX2 14, w ∈ WW (.code yX1_lineOf cX1_lineOf 6 (some .int)) := fun w h => List.mem_cons_of_mem _ (inlX2 w h)
  have w11 := hts (Cond.fieldLink RX1 128 "SightLegend$Lines" "type" "[I") (List.mem_cons_of_mem _ (GL_26 _ (by decide +kernel)))
  have w12 : tyc (b + 11) (0, 77) := ty_of (d := 1) (t1 := (0, 77)) (by decide +kernel) rfl w8
  have w13 := hts (Cond.fieldLink RX1 131 "SightLegend$Lines" "group" "[I") (List.mem_cons_of_mem _ (GL_26 _ (by decide +kernel)))
  have w14 : tyc (b + 13) (0, 77) := ty_of (d := 3) (t1 := (0, 77)) (by decide +kernel) rfl w8
  have w15 := hts (Cond.fieldLink RX1 134 "SightLegend$MapState" "group" "[I") (List.mem_cons_of_mem _ (GL_26 _ (by decide +kernel)))
  have w16 : tyc (q1 + 7) (0, 12) := ty_of (d := 7) (t1 := (0, 12)) (by decide +kernel) rfl tq1
  have w17 := hts (Cond.fieldLink RX1 135 "SightLegend$Lines" "kind" "[I") (List.mem_cons_of_mem _ (GL_26 _ (by decide +kernel)))
  have w18 : tyc (b + 12) (0, 77) := ty_of (d := 2) (t1 := (0, 77)) (by decide +kernel) rfl w8
  have w19 := hts (Cond.fieldLink RX1 138 "SightLegend$Lines" "first" "[I") (List.mem_cons_of_mem _ (GL_26 _ (by decide +kernel)))
  have w20 : tyc (b + 14) (0, 77) := ty_of (d := 4) (t1 := (0, 77)) (by decide +kernel) rfl w8
  have w21 := hts (Cond.fieldLink RX1 141 "SightLegend$Lines" "last" "[I") (List.mem_cons_of_mem _ (GL_26 _ (by decide +kernel)))
  have w22 : tyc (b + 15) (0, 77) := ty_of (d := 5) (t1 := (0, 77)) (by decide +kernel) rfl w8
  unfold f_X1_lineOf at h
  refine a_sub (ls1 := [(0, Value.ref (ad b)), (1, Value.ref (ad q1)), (2, vI p2)]) [0, 1, 2] rfl ?_
  refine a_aload_n (pc := 0) a 0 dX1_lineOf_0 rfl rfl ?_
  refine a_getR (pc := 1) a 2 2 rfl tb vc1 w2 w1 (by decide) (by decide) 2 (q := (b + 2)) rfl rfl dX1_lineOf_1 ?_
  refine a_iload_n (pc := 4) a 2 dX1_lineOf_4 rfl rfl ?_
  refine a_zald (pc := 5) a w3 (by decide) h.1 dX1_lineOf_5 ?_
  replace h := h.2
  refine a_if_ne (pc := 6) a h.1 dX1_lineOf_6 (tgt := 11) (by decide) (fun hq => ?_) (fun hq => ?_)
  · replace h := h.2.1 hq
    clear hq
    refine a_aload_n (pc := 11) a 1 dX1_lineOf_11 rfl rfl ?_
    refine a_getR (pc := 12) a 0 0 rfl tq1 vc3 w5 w4 (by decide) (by decide) 1 (q := (q1 + 1)) rfl rfl dX1_lineOf_12 ?_
    refine a_iload_n (pc := 15) a 2 dX1_lineOf_15 rfl rfl ?_
    refine a_iald (pc := 16) a w6 (by decide) h.1 dX1_lineOf_16 ?_
    replace h := h.2
    refine a_nm (fun x1 hx => ?_)
    replace h := h x1 hx
    clear hx
    refine a_istore_n (pc := 17) a (ls1 := [(3, vI x1), (0, Value.ref (ad b)), (1, Value.ref (ad q1)), (2, vI p2)]) dX1_lineOf_17 rfl (by decide) rfl ?_
    refine a_aload_n (pc := 18) a 2 dX1_lineOf_18 rfl rfl ?_
    refine a_iload_n (pc := 19) a 3 dX1_lineOf_19 rfl rfl ?_
    refine a_cvi (pc := 20) a (As := [vI p2]) (rest := []) tq1 vc3 (fun sz => c_X3_classOf hinj hl0 tq1 h sz) (cwV 1 hts (gl_V (GL_26 _ (by decide +kernel)) (GL_18 _ (by decide +kernel)) (GL_18 _ (by decide +kernel)) (GL_1 _ (by decide +kernel)) (GL_18 _ (by decide +kernel))) rfl rfl rfl (by decide +kernel) ⟨Nat.le_of_ble_eq_true rfl, Nat.le_of_ble_eq_true rfl⟩) rfl rfl (Nat.le_of_ble_eq_true rfl) ⟨Nat.le_of_ble_eq_true rfl, Nat.le_of_ble_eq_true rfl⟩ dX1_lineOf_20 ?_
    rintro x2 s9 ⟨hs9, h9⟩
    subst s9
    replace h := h9
    clear h9
    refine a_istore (pc := 23) a (ls1 := [(4, vI x2), (3, vI x1), (0, Value.ref (ad b)), (1, Value.ref (ad q1)), (2, vI p2)]) dX1_lineOf_23 (by decide) rfl ?_
    refine a_iconst (pc := 25) a dX1_lineOf_25 ?_
    refine a_istore (pc := 26) a (ls1 := [(5, vI 0), (4, vI x2), (3, vI x1), (0, Value.ref (ad b)), (1, Value.ref (ad q1)), (2, vI p2)]) dX1_lineOf_26 (by decide) rfl ?_
    refine a_sub (ls1 := [(0, Value.ref (ad b)), (1, Value.ref (ad q1)), (3, vI x1), (4, vI x2), (5, vI 0)]) [3, 4, 2, 1, 0] rfl ?_
    refine g_wl1 (fun x3 => [(0, Value.ref (ad b)), (1, Value.ref (ad q1)), (3, vI x1), (4, vI x2), (5, vI x3)]) h ?_
    clear h
    intro x3 ag28 hag28 h
    refine a_iload (pc := 28) a 4 dX1_lineOf_28 rfl ?_
    refine a_aload_n (pc := 30) a 0 dX1_lineOf_30 rfl rfl ?_
    refine a_getR (pc := 31) a 6 6 rfl tb vc1 w2 w7 (by decide) (by decide) 10 (q := (b + 10)) rfl rfl dX1_lineOf_31 ?_
    refine a_getI (pc := 34) a 0 0 rfl w8 vc2 w10 w9 (by decide) (by decide) rfl dX1_lineOf_34 ?_
    refine a_icmp_ge (pc := 37) a h.1 h.2.1 dX1_lineOf_37 (tgt := 129) (by decide) (fun hq => ?_) (fun hq => ?_)
    · replace h := h.2.2.1 hq
      clear hq
      refine a_iconst (pc := 129) a dX1_lineOf_129 ?_
      exact e_i (pc := 130) a hr dX1_lineOf_130 ⟨rfl, h⟩
    · replace h := h.2.2.2 hq
      clear hq
      refine a_aload_n (pc := 40) a 0 dX1_lineOf_40 rfl rfl ?_
      refine a_getR (pc := 41) a 6 6 rfl tb vc1 w2 w7 (by decide) (by decide) 10 (q := (b + 10)) rfl rfl dX1_lineOf_41 ?_
      refine a_getR (pc := 44) a 1 1 rfl w8 vc2 w10 w11 (by decide) (by decide) 1 (q := (b + 11)) rfl rfl dX1_lineOf_44 ?_
      refine a_iload (pc := 47) a 4 dX1_lineOf_47 rfl ?_
      refine a_iald (pc := 49) a w12 (by decide) h.1 dX1_lineOf_49 ?_
      replace h := h.2
      refine a_iconst (pc := 50) a dX1_lineOf_50 ?_
      refine g_wj0 76 0 0 [(0, Value.ref (ad b)), (1, Value.ref (ad q1)), (3, vI x1), (4, vI x2), (5, vI x3)] [] h ?_ ?_
      · clear h
        intro  h
        refine a_aload_n (pc := 76) a 0 dX1_lineOf_76 rfl rfl ?_
        refine a_getR (pc := 77) a 6 6 rfl tb vc1 w2 w7 (by decide) (by decide) 10 (q := (b + 10)) rfl rfl dX1_lineOf_77 ?_
        refine a_getR (pc := 80) a 2 2 rfl w8 vc2 w10 w17 (by decide) (by decide) 2 (q := (b + 12)) rfl rfl dX1_lineOf_80 ?_
        refine a_iload (pc := 83) a 4 dX1_lineOf_83 rfl ?_
        refine a_iald (pc := 85) a w18 (by decide) h.1 dX1_lineOf_85 ?_
        replace h := h.2
        refine a_iload_n (pc := 86) a 2 dX1_lineOf_86 rfl rfl ?_
        refine a_icmp_ne (pc := 87) a h.1 h.2.1 dX1_lineOf_87 (tgt := 123) (by decide) (fun hq => ?_) (fun hq => ?_)
        · replace h := h.2.2.1 hq
          clear hq
          refine a_iinc (pc := 123) a (ls1 := [(5, vI (x3 + 1)), (0, Value.ref (ad b)), (1, Value.ref (ad q1)), (3, vI x1), (4, vI x2)]) 4 dX1_lineOf_123 rfl (by decide) rfl ?_
          refine a_goto (pc := 126) a dX1_lineOf_126 (tgt := 28) (by decide) ?_
          refine a_sub (ls1 := [(0, Value.ref (ad b)), (1, Value.ref (ad q1)), (3, vI x1), (4, vI x2), (5, vI (x3 + 1))]) [1, 2, 3, 4, 0] rfl ?_
          exact hag28 (x3 + 1) h
        · replace h := h.2.2.2 hq
          clear hq
          refine a_aload_n (pc := 90) a 0 dX1_lineOf_90 rfl rfl ?_
          refine a_getR (pc := 91) a 6 6 rfl tb vc1 w2 w7 (by decide) (by decide) 10 (q := (b + 10)) rfl rfl dX1_lineOf_91 ?_
          refine a_getR (pc := 94) a 4 4 rfl w8 vc2 w10 w19 (by decide) (by decide) 4 (q := (b + 14)) rfl rfl dX1_lineOf_94 ?_
          refine a_iload (pc := 97) a 4 dX1_lineOf_97 rfl ?_
          refine a_iald (pc := 99) a w20 (by decide) h.1 dX1_lineOf_99 ?_
          replace h := h.2
          refine a_iload (pc := 100) a 3 dX1_lineOf_100 rfl ?_
          refine a_icmp_gt (pc := 102) a h.1 h.2.1 dX1_lineOf_102 (tgt := 123) (by decide) (fun hq => ?_) (fun hq => ?_)
          · replace h := h.2.2.1 hq
            clear hq
            refine a_iinc (pc := 123) a (ls1 := [(5, vI (x3 + 1)), (0, Value.ref (ad b)), (1, Value.ref (ad q1)), (3, vI x1), (4, vI x2)]) 4 dX1_lineOf_123 rfl (by decide) rfl ?_
            refine a_goto (pc := 126) a dX1_lineOf_126 (tgt := 28) (by decide) ?_
            refine a_sub (ls1 := [(0, Value.ref (ad b)), (1, Value.ref (ad q1)), (3, vI x1), (4, vI x2), (5, vI (x3 + 1))]) [1, 2, 3, 4, 0] rfl ?_
            exact hag28 (x3 + 1) h
          · replace h := h.2.2.2 hq
            clear hq
            refine a_iload (pc := 105) a 3 dX1_lineOf_105 rfl ?_
            refine a_aload_n (pc := 107) a 0 dX1_lineOf_107 rfl rfl ?_
            refine a_getR (pc := 108) a 6 6 rfl tb vc1 w2 w7 (by decide) (by decide) 10 (q := (b + 10)) rfl rfl dX1_lineOf_108 ?_
            refine a_getR (pc := 111) a 5 5 rfl w8 vc2 w10 w21 (by decide) (by decide) 5 (q := (b + 15)) rfl rfl dX1_lineOf_111 ?_
            refine a_iload (pc := 114) a 4 dX1_lineOf_114 rfl ?_
            refine a_iald (pc := 116) a w22 (by decide) h.1 dX1_lineOf_116 ?_
            replace h := h.2
            refine a_icmp_gt (pc := 117) a h.1 h.2.1 dX1_lineOf_117 (tgt := 123) (by decide) (fun hq => ?_) (fun hq => ?_)
            · replace h := h.2.2.1 hq
              clear hq
              refine a_iinc (pc := 123) a (ls1 := [(5, vI (x3 + 1)), (0, Value.ref (ad b)), (1, Value.ref (ad q1)), (3, vI x1), (4, vI x2)]) 4 dX1_lineOf_123 rfl (by decide) rfl ?_
              refine a_goto (pc := 126) a dX1_lineOf_126 (tgt := 28) (by decide) ?_
              refine a_sub (ls1 := [(0, Value.ref (ad b)), (1, Value.ref (ad q1)), (3, vI x1), (4, vI x2), (5, vI (x3 + 1))]) [1, 2, 3, 4, 0] rfl ?_
              exact hag28 (x3 + 1) h
            · replace h := h.2.2.2 hq
              clear hq
              refine a_iload (pc := 120) a 4 dX1_lineOf_120 rfl ?_
              exact e_i (pc := 122) a hr dX1_lineOf_122 ⟨rfl, h⟩
      · clear h
        intro jj76 hjj76 h
        refine a_icmp_ne (pc := 51) a h.1 ⟨by decide, by decide⟩ dX1_lineOf_51 (tgt := 76) (by decide) (fun hq => ?_) (fun hq => ?_)
        · replace h := h.2.1 hq
          clear hq
          exact hjj76  h
        · replace h := h.2.2 hq
          clear hq
          refine a_aload_n (pc := 54) a 0 dX1_lineOf_54 rfl rfl ?_
          refine a_getR (pc := 55) a 6 6 rfl tb vc1 w2 w7 (by decide) (by decide) 10 (q := (b + 10)) rfl rfl dX1_lineOf_55 ?_
          refine a_getR (pc := 58) a 3 3 rfl w8 vc2 w10 w13 (by decide) (by decide) 3 (q := (b + 13)) rfl rfl dX1_lineOf_58 ?_
          refine a_iload (pc := 61) a 4 dX1_lineOf_61 rfl ?_
          refine a_iald (pc := 63) a w14 (by decide) h.1 dX1_lineOf_63 ?_
          replace h := h.2
          refine a_aload_n (pc := 64) a 1 dX1_lineOf_64 rfl rfl ?_
          refine a_getR (pc := 65) a 7 7 rfl tq1 vc3 w5 w15 (by decide) (by decide) 7 (q := (q1 + 7)) rfl rfl dX1_lineOf_65 ?_
          refine a_iload_n (pc := 68) a 2 dX1_lineOf_68 rfl rfl ?_
          refine a_iald (pc := 69) a w16 (by decide) h.1 dX1_lineOf_69 ?_
          replace h := h.2
          refine a_icmp_ne (pc := 70) a h.1 h.2.1 dX1_lineOf_70 (tgt := 76) (by decide) (fun hq => ?_) (fun hq => ?_)
          · replace h := h.2.2.1 hq
            clear hq
            exact hjj76  h
          · replace h := h.2.2.2 hq
            clear hq
            refine a_iload (pc := 73) a 4 dX1_lineOf_73 rfl ?_
            exact e_i (pc := 75) a hr dX1_lineOf_75 ⟨rfl, h⟩
  · replace h := h.2.2 hq
    clear hq
    refine a_iconst (pc := 9) a dX1_lineOf_9 ?_
    exact e_i (pc := 10) a hr dX1_lineOf_10 ⟨rfl, h⟩

set_option maxRecDepth 100000 in
set_option maxHeartbeats 4000000 in
theorem c_X5_put {l : Launch} {D : va_G} {X : XI} {ad : Nat → Nat} (hinj : adI ad) (hl0 : l.stackTraces = false) {p1 : Int}  {σ : St} {K : St → Prop} (h : f_X5_put p1 σ K) (sz : Nat) : Met l yX5_put (WW (.code yX5_put cX5_put 2 none)) { frames := 0, cells := 0, slots := 0, locals := 0 } (va_Pc [Value.ref (ad 93), vI p1] (WD D X ad σ sz)) (QV D X ad sz K) 0 0 (AA ad sz) := by
  refine a_start (cc := cX5_put) (maxL := 2) (ret := none) (own := RX5) [Value.ref (ad 93), vI p1] (by decide) rfl rfl (Nat.le_of_ble_eq_true rfl) hinj hl0 ?_
  intro p e s m below meth c a hr hsz
  subst hsz
  have hts := a.1.2.2.2.2
  have tb : tyc 93 (9, 0) := ⟨by decide, rfl⟩
  have w1 := hts (Cond.fieldLink RX5 22 "SightLegend$SignText" "length" "I") (List.mem_cons_of_mem _ (GL_34 _ (by decide +kernel)))
  have w2 : ∀ w ∈ u_ws RX5 TX5 5, w ∈ WW (.code yX5_put cX5_put 2 none) := fun w h => List.mem_cons_of_mem _ (inlX5 w h)
  have w3 := hts (Cond.fieldLink RX5 9 "SightLegend$SignText" "bytes" "[I") (List.mem_cons_of_mem _ (GL_4 _ (by decide +kernel)))
  have w4 : tyc 94 (0, 160) := ty_of (d := 1) (t1 := (0, 160)) (by decide +kernel) rfl tb
  unfold f_X5_put at h
  refine a_sub (ls1 := [(0, Value.ref (ad 93)), (1, vI p1)]) [0, 1] rfl ?_
  refine a_aload_n (pc := 0) a 0 dX5_put_0 rfl rfl ?_
  refine a_getI (pc := 1) a 1 1 rfl tb vc5 w2 w1 (by decide) (by decide) rfl dX5_put_1 ?_
  refine a_if_lt (pc := 4) a h.1 dX5_put_4 (tgt := 37) (by decide) (fun hq => ?_) (fun hq => ?_)
  · replace h := h.2.1 hq
    clear hq
    exact e_v (pc := 37) a hr dX5_put_37 h
  · replace h := h.2.2 hq
    clear hq
    refine a_aload_n (pc := 7) a 0 dX5_put_7 rfl rfl ?_
    refine a_getI (pc := 8) a 1 1 rfl tb vc5 w2 w1 (by decide) (by decide) rfl dX5_put_8 ?_
    refine a_sipush (pc := 11) a dX5_put_11 (by decide) ?_
    refine a_icmp_ge (pc := 14) a h.1 ⟨by decide, by decide⟩ dX5_put_14 (tgt := 37) (by decide) (fun hq => ?_) (fun hq => ?_)
    · replace h := h.2.1 hq
      clear hq
      exact e_v (pc := 37) a hr dX5_put_37 h
    · replace h := h.2.2 hq
      clear hq
      refine a_aload_n (pc := 17) a 0 dX5_put_17 rfl rfl ?_
      refine a_getR (pc := 18) a 0 0 rfl tb vc5 w2 w3 (by decide) (by decide) 1 (q := 94) rfl rfl dX5_put_18 ?_
      refine a_aload_n (pc := 21) a 0 dX5_put_21 rfl rfl ?_
      refine a_getI (pc := 22) a 1 1 rfl tb vc5 w2 w1 (by decide) (by decide) rfl dX5_put_22 ?_
      refine a_iload_n (pc := 25) a 1 dX5_put_25 rfl rfl ?_
      refine a_iast (pc := 26) a w4 (by decide) h.1 dX5_put_26 ?_
      replace h := h.2
      refine a_nmS (fun s1 hx => ?_)
      replace h := h s1 hx
      clear hx
      refine a_aload_n (pc := 27) a 0 dX5_put_27 rfl rfl ?_
      refine a_dup (pc := 28) a rfl dX5_put_28 ?_
      refine a_getI (pc := 29) a 1 1 rfl tb vc5 w2 w1 (by decide) (by decide) rfl dX5_put_29 ?_
      refine a_iconst (pc := 32) a dX5_put_32 ?_
      refine a_iadd (pc := 33) a dX5_put_33 ?_
      refine a_putI (pc := 34) a 1 1 rfl tb vc5 w2 w1 (by decide) (by decide) tyX5 tyX5_ok nmX5 rfl rfl (by decide +kernel) dX5_put_34 ?_
      refine a_nmS (fun s2 hx => ?_)
      replace h := h s2 hx
      clear hx
      exact e_v (pc := 37) a hr dX5_put_37 h

set_option maxRecDepth 100000 in
set_option maxHeartbeats 4000000 in
theorem c_X5_isDigit {l : Launch} {D : va_G} {X : XI} {ad : Nat → Nat} (hinj : adI ad) (hl0 : l.stackTraces = false) {p1 : Int}  {σ : St} {K : Int → Prop} (h : f_X5_isDigit p1 σ K) (sz : Nat) : Met l yX5_isDigit (WW (.code yX5_isDigit cX5_isDigit 2 (some .boolean))) { frames := 0, cells := 0, slots := 0, locals := 0 } (va_Pc [Value.ref (ad 93), vI p1] (WD D X ad σ sz)) (QI D X ad sz (fun r τ => τ = σ ∧ K r)) 0 0 (AA ad sz) := by
  refine a_start (cc := cX5_isDigit) (maxL := 2) (ret := (some .boolean)) (own := RX5) [Value.ref (ad 93), vI p1] (by decide) rfl rfl (Nat.le_of_ble_eq_true rfl) hinj hl0 ?_
  intro p e s m below meth c a hr hsz
  subst hsz
  have hts := a.1.2.2.2.2
  have tb : tyc 93 (9, 0) := ⟨by decide, rfl⟩
  have w1 := hts (Cond.fieldLink RX5 22 "SightLegend$SignText" "length" "I") (List.mem_cons_of_mem _ (GL_34 _ (by decide +kernel)))
  have w2 : ∀ w ∈ u_ws RX5 TX5 5, w ∈ WW (.code yX5_isDigit cX5_isDigit 2 (some .boolean)) := fun w h => List.mem_cons_of_mem _ (inlX5 w h)
  have w3 := hts (Cond.fieldLink RX5 9 "SightLegend$SignText" "bytes" "[I") (List.mem_cons_of_mem _ (GL_4 _ (by decide +kernel)))
  have w4 : tyc 94 (0, 160) := ty_of (d := 1) (t1 := (0, 160)) (by decide +kernel) rfl tb
  unfold f_X5_isDigit at h
  refine a_sub (ls1 := [(0, Value.ref (ad 93)), (1, vI p1)]) [0, 1] rfl ?_
  refine a_iload_n (pc := 0) a 1 dX5_isDigit_0 rfl rfl ?_
  refine a_if_lt (pc := 1) a h.1 dX5_isDigit_1 (tgt := 38) (by decide) (fun hq => ?_) (fun hq => ?_)
  · replace h := h.2.1 hq
    clear hq
    refine a_iconst (pc := 38) a dX5_isDigit_38 ?_
    exact e_z (pc := 39) a hr (by decide) dX5_isDigit_39 ⟨rfl, h⟩
  · replace h := h.2.2 hq
    clear hq
    refine a_iload_n (pc := 4) a 1 dX5_isDigit_4 rfl rfl ?_
    refine a_aload_n (pc := 5) a 0 dX5_isDigit_5 rfl rfl ?_
    refine a_getI (pc := 6) a 1 1 rfl tb vc5 w2 w1 (by decide) (by decide) rfl dX5_isDigit_6 ?_
    refine a_icmp_ge (pc := 9) a h.1 h.2.1 dX5_isDigit_9 (tgt := 38) (by decide) (fun hq => ?_) (fun hq => ?_)
    · replace h := h.2.2.1 hq
      clear hq
      refine a_iconst (pc := 38) a dX5_isDigit_38 ?_
      exact e_z (pc := 39) a hr (by decide) dX5_isDigit_39 ⟨rfl, h⟩
    · replace h := h.2.2.2 hq
      clear hq
      refine a_aload_n (pc := 12) a 0 dX5_isDigit_12 rfl rfl ?_
      refine a_getR (pc := 13) a 0 0 rfl tb vc5 w2 w3 (by decide) (by decide) 1 (q := 94) rfl rfl dX5_isDigit_13 ?_
      refine a_iload_n (pc := 16) a 1 dX5_isDigit_16 rfl rfl ?_
      refine a_iald (pc := 17) a w4 (by decide) h.1 dX5_isDigit_17 ?_
      replace h := h.2
      refine a_bipush (pc := 18) a dX5_isDigit_18 (by decide) ?_
      refine a_icmp_lt (pc := 20) a h.1 ⟨by decide, by decide⟩ dX5_isDigit_20 (tgt := 38) (by decide) (fun hq => ?_) (fun hq => ?_)
      · replace h := h.2.1 hq
        clear hq
        refine a_iconst (pc := 38) a dX5_isDigit_38 ?_
        exact e_z (pc := 39) a hr (by decide) dX5_isDigit_39 ⟨rfl, h⟩
      · replace h := h.2.2 hq
        clear hq
        refine a_aload_n (pc := 23) a 0 dX5_isDigit_23 rfl rfl ?_
        refine a_getR (pc := 24) a 0 0 rfl tb vc5 w2 w3 (by decide) (by decide) 1 (q := 94) rfl rfl dX5_isDigit_24 ?_
        refine a_iload_n (pc := 27) a 1 dX5_isDigit_27 rfl rfl ?_
        refine a_iald (pc := 28) a w4 (by decide) h.1 dX5_isDigit_28 ?_
        replace h := h.2
        refine a_bipush (pc := 29) a dX5_isDigit_29 (by decide) ?_
        refine a_icmp_gt (pc := 31) a h.1 ⟨by decide, by decide⟩ dX5_isDigit_31 (tgt := 38) (by decide) (fun hq => ?_) (fun hq => ?_)
        · replace h := h.2.1 hq
          clear hq
          refine a_iconst (pc := 38) a dX5_isDigit_38 ?_
          exact e_z (pc := 39) a hr (by decide) dX5_isDigit_39 ⟨rfl, h⟩
        · replace h := h.2.2 hq
          clear hq
          refine a_iconst (pc := 34) a dX5_isDigit_34 ?_
          refine a_goto (pc := 35) a dX5_isDigit_35 (tgt := 39) (by decide) ?_
          exact e_z (pc := 39) a hr (by decide) dX5_isDigit_39 ⟨rfl, h⟩

set_option maxRecDepth 100000 in
set_option maxHeartbeats 4000000 in
theorem c_X5_readNumber {l : Launch} {D : va_G} {X : XI} {ad : Nat → Nat} (hinj : adI ad) (hl0 : l.stackTraces = false) {p1 : Int} {p2 : Int}  {σ : St} {K : Int → St → Prop} (h : f_X5_readNumber p1 p2 σ K) (sz : Nat) : Met l yX5_readNumber (WW (.code yX5_readNumber cX5_readNumber 6 (some .int))) { frames := 1, cells := 0, slots := 0, locals := 21 } (va_Pc [Value.ref (ad 93), vI p1, vI p2] (WD D X ad σ sz)) (QI D X ad sz K) 0 0 (AA ad sz) := by
  refine a_start (cc := cX5_readNumber) (maxL := 6) (ret := (some .int)) (own := RX5) [Value.ref (ad 93), vI p1, vI p2] (by decide) rfl rfl (Nat.le_of_ble_eq_true rfl) hinj hl0 ?_
  intro p e s m below meth c a hr hsz
  subst hsz
  have hts := a.1.2.2.2.2
  have tb : tyc 93 (9, 0) := ⟨by decide, rfl⟩
  have w1 := hts (Cond.fieldLink RX5 29 "SightLegend$SignText" "error" "I") (List.mem_cons_of_mem _ (GL_35 _ (by decide +kernel)))
  have w2 : ∀ w ∈ u_ws RX5 TX5 5, w ∈ WW (.code yX5_readNumber cX5_readNumber 6 (some .int)) := fun w h => List.mem_cons_of_mem _ (inlX5 w h)
  have w3 := hts (Cond.fieldLink RX5 26 "SightLegend$SignText" "at" "I") (List.mem_cons_of_mem _ (GL_35 _ (by decide +kernel)))
  have w4 := hts (Cond.fieldLink RX5 9 "SightLegend$SignText" "bytes" "[I") (List.mem_cons_of_mem _ (GL_4 _ (by decide +kernel)))
  have w5 : tyc 94 (0, 160) := ty_of (d := 1) (t1 := (0, 160)) (by decide +kernel) rfl tb
  unfold f_X5_readNumber at h
  refine a_sub (ls1 := [(0, Value.ref (ad 93)), (1, vI p1), (2, vI p2)]) [0, 1, 2] rfl ?_
  refine a_aload_n (pc := 0) a 0 dX5_readNumber_0 rfl rfl ?_
  refine a_getI (pc := 1) a 3 3 rfl tb vc5 w2 w1 (by decide) (by decide) rfl dX5_readNumber_1 ?_
  refine a_iconst (pc := 4) a dX5_readNumber_4 ?_
  refine a_icmp_eq (pc := 5) a h.1 ⟨by decide, by decide⟩ dX5_readNumber_5 (tgt := 10) (by decide) (fun hq => ?_) (fun hq => ?_)
  · replace h := h.2.1 hq
    clear hq
    refine a_aload_n (pc := 10) a 0 dX5_readNumber_10 rfl rfl ?_
    refine a_getI (pc := 11) a 4 4 rfl tb vc5 w2 w3 (by decide) (by decide) rfl dX5_readNumber_11 ?_
    refine a_nm (fun x1 hx => ?_)
    replace h := h x1 hx
    clear hx
    refine a_istore_n (pc := 14) a (ls1 := [(3, vI x1), (0, Value.ref (ad 93)), (1, vI p1), (2, vI p2)]) dX5_readNumber_14 rfl (by decide) rfl ?_
    refine a_iconst (pc := 15) a dX5_readNumber_15 ?_
    refine a_istore (pc := 16) a (ls1 := [(4, vI 0), (3, vI x1), (0, Value.ref (ad 93)), (1, vI p1), (2, vI p2)]) dX5_readNumber_16 (by decide) rfl ?_
    refine a_iconst (pc := 18) a dX5_readNumber_18 ?_
    refine a_istore (pc := 19) a (ls1 := [(5, vI 0), (4, vI 0), (3, vI x1), (0, Value.ref (ad 93)), (1, vI p1), (2, vI p2)]) dX5_readNumber_19 (by decide) rfl ?_
    refine a_sub (ls1 := [(0, Value.ref (ad 93)), (1, vI p1), (2, vI p2), (3, vI x1), (4, vI 0), (5, vI 0)]) [3, 4, 5, 2, 1, 0] rfl ?_
    refine g_wl2s (fun x2 x3 => [(0, Value.ref (ad 93)), (1, vI p1), (2, vI p2), (3, vI x1), (4, vI x2), (5, vI x3)]) h ?_
    clear h
    intro x2 x3 s4 ag21 hag21 h
    refine a_iload (pc := 21) a 5 dX5_readNumber_21 rfl ?_
    refine a_iload_n (pc := 23) a 1 dX5_readNumber_23 rfl rfl ?_
    refine g_wj0 74 0 0 [(0, Value.ref (ad 93)), (2, vI p2), (3, vI x1), (4, vI x2)] [] h ?_ ?_
    · clear h
      intro  h
      refine a_aload_n (pc := 74) a 0 dX5_readNumber_74 rfl rfl ?_
      refine a_getI (pc := 75) a 4 4 rfl tb vc5 w2 w3 (by decide) (by decide) rfl dX5_readNumber_75 ?_
      refine a_iload_n (pc := 78) a 2 dX5_readNumber_78 rfl rfl ?_
      refine a_icmp_eq (pc := 79) a h.1 h.2.1 dX5_readNumber_79 (tgt := 93) (by decide) (fun hq => ?_) (fun hq => ?_)
      · replace h := h.2.2.1 hq
        clear hq
        refine a_aload_n (pc := 93) a 0 dX5_readNumber_93 rfl rfl ?_
        refine a_aload_n (pc := 94) a 0 dX5_readNumber_94 rfl rfl ?_
        refine a_getI (pc := 95) a 4 4 rfl tb vc5 w2 w3 (by decide) (by decide) rfl dX5_readNumber_95 ?_
        refine a_putI (pc := 98) a 3 3 rfl tb vc5 w2 w1 (by decide) (by decide) tyX5 tyX5_ok nmX5 rfl rfl (by decide +kernel) dX5_readNumber_98 ?_
        refine a_nmS (fun s9 hx => ?_)
        replace h := h s9 hx
        clear hx
        refine a_goto (pc := 101) a dX5_readNumber_101 (tgt := 115) (by decide) ?_
        refine a_iload (pc := 115) a 3 dX5_readNumber_115 rfl ?_
        exact e_i (pc := 117) a hr dX5_readNumber_117 h
      · replace h := h.2.2.2 hq
        clear hq
        refine a_aload_n (pc := 82) a 0 dX5_readNumber_82 rfl rfl ?_
        refine a_aload_n (pc := 83) a 0 dX5_readNumber_83 rfl rfl ?_
        refine a_getI (pc := 84) a 4 4 rfl tb vc5 w2 w3 (by decide) (by decide) rfl dX5_readNumber_84 ?_
        refine a_cvi (pc := 87) a (As := [vI (s4 93 4)]) (rest := []) tb vc5 (fun sz => c_X5_isDigit hinj hl0  h sz) (cwV 1 hts (gl_V (GL_36 _ (by decide +kernel)) (GL_36 _ (by decide +kernel)) (GL_36 _ (by decide +kernel)) (GL_2 _ (by decide +kernel)) (GL_36 _ (by decide +kernel))) rfl rfl rfl (by decide +kernel) ⟨Nat.le_of_ble_eq_true rfl, Nat.le_of_ble_eq_true rfl⟩) rfl rfl (Nat.le_of_ble_eq_true rfl) ⟨Nat.le_of_ble_eq_true rfl, Nat.le_of_ble_eq_true rfl⟩ dX5_readNumber_87 ?_
        rintro x10 s9 ⟨hs9, h9⟩
        subst s9
        replace h := h9
        clear h9
        refine a_if_eq (pc := 90) a h.1 dX5_readNumber_90 (tgt := 104) (by decide) (fun hq => ?_) (fun hq => ?_)
        · replace h := h.2.1 hq
          clear hq
          refine a_iload (pc := 104) a 3 dX5_readNumber_104 rfl ?_
          refine a_iload_n (pc := 106) a 1 dX5_readNumber_106 rfl rfl ?_
          refine a_icmp_lt (pc := 107) a h.1 h.2.1 dX5_readNumber_107 (tgt := 115) (by decide) (fun hq => ?_) (fun hq => ?_)
          · replace h := h.2.2.1 hq
            clear hq
            refine a_iload (pc := 115) a 3 dX5_readNumber_115 rfl ?_
            exact e_i (pc := 117) a hr dX5_readNumber_117 h
          · replace h := h.2.2.2 hq
            clear hq
            refine a_aload_n (pc := 110) a 0 dX5_readNumber_110 rfl rfl ?_
            refine a_iload_n (pc := 111) a 2 dX5_readNumber_111 rfl rfl ?_
            refine a_putI (pc := 112) a 3 3 rfl tb vc5 w2 w1 (by decide) (by decide) tyX5 tyX5_ok nmX5 rfl rfl (by decide +kernel) dX5_readNumber_112 ?_
            refine a_nmS (fun s11 hx => ?_)
            replace h := h s11 hx
            clear hx
            refine a_iload (pc := 115) a 3 dX5_readNumber_115 rfl ?_
            exact e_i (pc := 117) a hr dX5_readNumber_117 h
        · replace h := h.2.2 hq
          clear hq
          refine a_aload_n (pc := 93) a 0 dX5_readNumber_93 rfl rfl ?_
          refine a_aload_n (pc := 94) a 0 dX5_readNumber_94 rfl rfl ?_
          refine a_getI (pc := 95) a 4 4 rfl tb vc5 w2 w3 (by decide) (by decide) rfl dX5_readNumber_95 ?_
          refine a_putI (pc := 98) a 3 3 rfl tb vc5 w2 w1 (by decide) (by decide) tyX5 tyX5_ok nmX5 rfl rfl (by decide +kernel) dX5_readNumber_98 ?_
          refine a_nmS (fun s12 hx => ?_)
          replace h := h s12 hx
          clear hx
          refine a_goto (pc := 101) a dX5_readNumber_101 (tgt := 115) (by decide) ?_
          refine a_iload (pc := 115) a 3 dX5_readNumber_115 rfl ?_
          exact e_i (pc := 117) a hr dX5_readNumber_117 h
    · clear h
      intro jj74 hjj74 h
      refine a_icmp_ge (pc := 24) a h.1 h.2.1 dX5_readNumber_24 (tgt := 74) (by decide) (fun hq => ?_) (fun hq => ?_)
      · replace h := h.2.2.1 hq
        clear hq
        refine a_sub (ls1 := [(0, Value.ref (ad 93)), (2, vI p2), (3, vI x1), (4, vI x2)]) [0, 2, 3, 4] rfl ?_
        exact hjj74  h
      · replace h := h.2.2.2 hq
        clear hq
        refine a_aload_n (pc := 27) a 0 dX5_readNumber_27 rfl rfl ?_
        refine a_aload_n (pc := 28) a 0 dX5_readNumber_28 rfl rfl ?_
        refine a_getI (pc := 29) a 4 4 rfl tb vc5 w2 w3 (by decide) (by decide) rfl dX5_readNumber_29 ?_
        refine a_cvi (pc := 32) a (As := [vI (s4 93 4)]) (rest := []) tb vc5 (fun sz => c_X5_isDigit hinj hl0  h sz) (cwV 1 hts (gl_V (GL_36 _ (by decide +kernel)) (GL_36 _ (by decide +kernel)) (GL_36 _ (by decide +kernel)) (GL_2 _ (by decide +kernel)) (GL_36 _ (by decide +kernel))) rfl rfl rfl (by decide +kernel) ⟨Nat.le_of_ble_eq_true rfl, Nat.le_of_ble_eq_true rfl⟩) rfl rfl (Nat.le_of_ble_eq_true rfl) ⟨Nat.le_of_ble_eq_true rfl, Nat.le_of_ble_eq_true rfl⟩ dX5_readNumber_32 ?_
        rintro x6 s9 ⟨hs9, h9⟩
        subst s9
        replace h := h9
        clear h9
        refine a_if_eq (pc := 35) a h.1 dX5_readNumber_35 (tgt := 74) (by decide) (fun hq => ?_) (fun hq => ?_)
        · replace h := h.2.1 hq
          clear hq
          refine a_sub (ls1 := [(0, Value.ref (ad 93)), (2, vI p2), (3, vI x1), (4, vI x2)]) [0, 2, 3, 4] rfl ?_
          exact hjj74  h
        · replace h := h.2.2 hq
          clear hq
          refine a_iload (pc := 38) a 4 dX5_readNumber_38 rfl ?_
          refine a_bipush (pc := 40) a dX5_readNumber_40 (by decide) ?_
          refine a_imul (pc := 42) a dX5_readNumber_42 ?_
          refine a_aload_n (pc := 43) a 0 dX5_readNumber_43 rfl rfl ?_
          refine a_getR (pc := 44) a 0 0 rfl tb vc5 w2 w4 (by decide) (by decide) 1 (q := 94) rfl rfl dX5_readNumber_44 ?_
          refine a_aload_n (pc := 47) a 0 dX5_readNumber_47 rfl rfl ?_
          refine a_getI (pc := 48) a 4 4 rfl tb vc5 w2 w3 (by decide) (by decide) rfl dX5_readNumber_48 ?_
          refine a_iald (pc := 51) a w5 (by decide) h.1 dX5_readNumber_51 ?_
          replace h := h.2
          refine a_bipush (pc := 52) a dX5_readNumber_52 (by decide) ?_
          refine a_isub (pc := 54) a dX5_readNumber_54 ?_
          refine a_iadd (pc := 55) a dX5_readNumber_55 ?_
          refine a_nm (fun x7 hx => ?_)
          replace h := h x7 hx
          clear hx
          refine a_istore (pc := 56) a (ls1 := [(4, vI x7), (0, Value.ref (ad 93)), (1, vI p1), (2, vI p2), (3, vI x1), (5, vI x3)]) dX5_readNumber_56 (by decide) rfl ?_
          refine a_aload_n (pc := 58) a 1 dX5_readNumber_58 rfl rfl ?_
          refine a_dup (pc := 59) a rfl dX5_readNumber_59 ?_
          refine a_getI (pc := 60) a 4 4 rfl tb vc5 w2 w3 (by decide) (by decide) rfl dX5_readNumber_60 ?_
          refine a_iconst (pc := 63) a dX5_readNumber_63 ?_
          refine a_iadd (pc := 64) a dX5_readNumber_64 ?_
          refine a_putI (pc := 65) a 4 4 rfl tb vc5 w2 w3 (by decide) (by decide) tyX5 tyX5_ok nmX5 rfl rfl (by decide +kernel) dX5_readNumber_65 ?_
          refine a_nmS (fun s8 hx => ?_)
          replace h := h s8 hx
          clear hx
          refine a_iinc (pc := 68) a (ls1 := [(5, vI (x3 + 1)), (4, vI x7), (0, Value.ref (ad 93)), (1, vI p1), (2, vI p2), (3, vI x1)]) 5 dX5_readNumber_68 rfl (by decide) rfl ?_
          refine a_goto (pc := 71) a dX5_readNumber_71 (tgt := 21) (by decide) ?_
          refine a_sub (ls1 := [(0, Value.ref (ad 93)), (1, vI p1), (2, vI p2), (3, vI x1), (4, vI x7), (5, vI (x3 + 1))]) [2, 3, 4, 5, 1, 0] rfl ?_
          exact hag21 x7 (x3 + 1) s8 h
  · replace h := h.2.2 hq
    clear hq
    refine a_iconst (pc := 8) a dX5_readNumber_8 ?_
    exact e_i (pc := 9) a hr dX5_readNumber_9 h

set_option maxRecDepth 100000 in
set_option maxHeartbeats 4000000 in
theorem c_X5_readByte {l : Launch} {D : va_G} {X : XI} {ad : Nat → Nat} (hinj : adI ad) (hl0 : l.stackTraces = false) {p1 : Int}  {σ : St} {K : St → Prop} (h : f_X5_readByte p1 σ K) (sz : Nat) : Met l yX5_readByte (WW (.code yX5_readByte cX5_readByte 2 none)) { frames := 0, cells := 0, slots := 0, locals := 0 } (va_Pc [Value.ref (ad 93), vI p1] (WD D X ad σ sz)) (QV D X ad sz K) 0 0 (AA ad sz) := by
  refine a_start (cc := cX5_readByte) (maxL := 2) (ret := none) (own := RX5) [Value.ref (ad 93), vI p1] (by decide) rfl rfl (Nat.le_of_ble_eq_true rfl) hinj hl0 ?_
  intro p e s m below meth c a hr hsz
  subst hsz
  have hts := a.1.2.2.2.2
  have tb : tyc 93 (9, 0) := ⟨by decide, rfl⟩
  have w1 := hts (Cond.fieldLink RX5 29 "SightLegend$SignText" "error" "I") (List.mem_cons_of_mem _ (GL_35 _ (by decide +kernel)))
  have w2 : ∀ w ∈ u_ws RX5 TX5 5, w ∈ WW (.code yX5_readByte cX5_readByte 2 none) := fun w h => List.mem_cons_of_mem _ (inlX5 w h)
  have w3 := hts (Cond.fieldLink RX5 26 "SightLegend$SignText" "at" "I") (List.mem_cons_of_mem _ (GL_35 _ (by decide +kernel)))
  have w4 := hts (Cond.fieldLink RX5 22 "SightLegend$SignText" "length" "I") (List.mem_cons_of_mem _ (GL_34 _ (by decide +kernel)))
  have w5 := hts (Cond.fieldLink RX5 9 "SightLegend$SignText" "bytes" "[I") (List.mem_cons_of_mem _ (GL_4 _ (by decide +kernel)))
  have w6 : tyc 94 (0, 160) := ty_of (d := 1) (t1 := (0, 160)) (by decide +kernel) rfl tb
  unfold f_X5_readByte at h
  refine a_sub (ls1 := [(0, Value.ref (ad 93)), (1, vI p1)]) [0, 1] rfl ?_
  refine a_aload_n (pc := 0) a 0 dX5_readByte_0 rfl rfl ?_
  refine a_getI (pc := 1) a 3 3 rfl tb vc5 w2 w1 (by decide) (by decide) rfl dX5_readByte_1 ?_
  refine a_iconst (pc := 4) a dX5_readByte_4 ?_
  refine a_icmp_eq (pc := 5) a h.1 ⟨by decide, by decide⟩ dX5_readByte_5 (tgt := 9) (by decide) (fun hq => ?_) (fun hq => ?_)
  · replace h := h.2.1 hq
    clear hq
    refine a_aload_n (pc := 9) a 0 dX5_readByte_9 rfl rfl ?_
    refine a_getI (pc := 10) a 4 4 rfl tb vc5 w2 w3 (by decide) (by decide) rfl dX5_readByte_10 ?_
    refine a_if_lt (pc := 13) a h.1 dX5_readByte_13 (tgt := 53) (by decide) (fun hq => ?_) (fun hq => ?_)
    · replace h := h.2.1 hq
      clear hq
      refine a_aload_n (pc := 53) a 0 dX5_readByte_53 rfl rfl ?_
      refine a_aload_n (pc := 54) a 0 dX5_readByte_54 rfl rfl ?_
      refine a_getI (pc := 55) a 4 4 rfl tb vc5 w2 w3 (by decide) (by decide) rfl dX5_readByte_55 ?_
      refine a_putI (pc := 58) a 3 3 rfl tb vc5 w2 w1 (by decide) (by decide) tyX5 tyX5_ok nmX5 rfl rfl (by decide +kernel) dX5_readByte_58 ?_
      refine a_nmS (fun s1 hx => ?_)
      replace h := h s1 hx
      clear hx
      exact e_v (pc := 61) a hr dX5_readByte_61 h
    · replace h := h.2.2 hq
      clear hq
      refine a_aload_n (pc := 16) a 0 dX5_readByte_16 rfl rfl ?_
      refine a_getI (pc := 17) a 4 4 rfl tb vc5 w2 w3 (by decide) (by decide) rfl dX5_readByte_17 ?_
      refine a_aload_n (pc := 20) a 0 dX5_readByte_20 rfl rfl ?_
      refine a_getI (pc := 21) a 1 1 rfl tb vc5 w2 w4 (by decide) (by decide) rfl dX5_readByte_21 ?_
      refine a_icmp_ge (pc := 24) a h.1 h.2.1 dX5_readByte_24 (tgt := 53) (by decide) (fun hq => ?_) (fun hq => ?_)
      · replace h := h.2.2.1 hq
        clear hq
        refine a_aload_n (pc := 53) a 0 dX5_readByte_53 rfl rfl ?_
        refine a_aload_n (pc := 54) a 0 dX5_readByte_54 rfl rfl ?_
        refine a_getI (pc := 55) a 4 4 rfl tb vc5 w2 w3 (by decide) (by decide) rfl dX5_readByte_55 ?_
        refine a_putI (pc := 58) a 3 3 rfl tb vc5 w2 w1 (by decide) (by decide) tyX5 tyX5_ok nmX5 rfl rfl (by decide +kernel) dX5_readByte_58 ?_
        refine a_nmS (fun s2 hx => ?_)
        replace h := h s2 hx
        clear hx
        exact e_v (pc := 61) a hr dX5_readByte_61 h
      · replace h := h.2.2.2 hq
        clear hq
        refine a_aload_n (pc := 27) a 0 dX5_readByte_27 rfl rfl ?_
        refine a_getR (pc := 28) a 0 0 rfl tb vc5 w2 w5 (by decide) (by decide) 1 (q := 94) rfl rfl dX5_readByte_28 ?_
        refine a_aload_n (pc := 31) a 0 dX5_readByte_31 rfl rfl ?_
        refine a_getI (pc := 32) a 4 4 rfl tb vc5 w2 w3 (by decide) (by decide) rfl dX5_readByte_32 ?_
        refine a_iald (pc := 35) a w6 (by decide) h.1 dX5_readByte_35 ?_
        replace h := h.2
        refine a_iload_n (pc := 36) a 1 dX5_readByte_36 rfl rfl ?_
        refine a_icmp_ne (pc := 37) a h.1 h.2.1 dX5_readByte_37 (tgt := 53) (by decide) (fun hq => ?_) (fun hq => ?_)
        · replace h := h.2.2.1 hq
          clear hq
          refine a_aload_n (pc := 53) a 0 dX5_readByte_53 rfl rfl ?_
          refine a_aload_n (pc := 54) a 0 dX5_readByte_54 rfl rfl ?_
          refine a_getI (pc := 55) a 4 4 rfl tb vc5 w2 w3 (by decide) (by decide) rfl dX5_readByte_55 ?_
          refine a_putI (pc := 58) a 3 3 rfl tb vc5 w2 w1 (by decide) (by decide) tyX5 tyX5_ok nmX5 rfl rfl (by decide +kernel) dX5_readByte_58 ?_
          refine a_nmS (fun s3 hx => ?_)
          replace h := h s3 hx
          clear hx
          exact e_v (pc := 61) a hr dX5_readByte_61 h
        · replace h := h.2.2.2 hq
          clear hq
          refine a_aload_n (pc := 40) a 0 dX5_readByte_40 rfl rfl ?_
          refine a_dup (pc := 41) a rfl dX5_readByte_41 ?_
          refine a_getI (pc := 42) a 4 4 rfl tb vc5 w2 w3 (by decide) (by decide) rfl dX5_readByte_42 ?_
          refine a_iconst (pc := 45) a dX5_readByte_45 ?_
          refine a_iadd (pc := 46) a dX5_readByte_46 ?_
          refine a_putI (pc := 47) a 4 4 rfl tb vc5 w2 w3 (by decide) (by decide) tyX5 tyX5_ok nmX5 rfl rfl (by decide +kernel) dX5_readByte_47 ?_
          refine a_nmS (fun s4 hx => ?_)
          replace h := h s4 hx
          clear hx
          refine a_goto (pc := 50) a dX5_readByte_50 (tgt := 61) (by decide) ?_
          exact e_v (pc := 61) a hr dX5_readByte_61 h
  · replace h := h.2.2 hq
    clear hq
    exact e_v (pc := 8) a hr dX5_readByte_8 h

set_option maxRecDepth 100000 in
set_option maxHeartbeats 4000000 in
theorem c_X5_readLevel {l : Launch} {D : va_G} {X : XI} {ad : Nat → Nat} (hinj : adI ad) (hl0 : l.stackTraces = false)   {σ : St} {K : Int → St → Prop} (h : f_X5_readLevel σ K) (sz : Nat) : Met l yX5_readLevel (WW (.code yX5_readLevel cX5_readLevel 2 (some .int))) { frames := 1, cells := 0, slots := 0, locals := 21 } (va_Pc [Value.ref (ad 93)] (WD D X ad σ sz)) (QI D X ad sz K) 0 0 (AA ad sz) := by
  refine a_start (cc := cX5_readLevel) (maxL := 2) (ret := (some .int)) (own := RX5) [Value.ref (ad 93)] (by decide) rfl rfl (Nat.le_of_ble_eq_true rfl) hinj hl0 ?_
  intro p e s m below meth c a hr hsz
  subst hsz
  have hts := a.1.2.2.2.2
  have tb : tyc 93 (9, 0) := ⟨by decide, rfl⟩
  have w1 := hts (Cond.fieldLink RX5 29 "SightLegend$SignText" "error" "I") (List.mem_cons_of_mem _ (GL_35 _ (by decide +kernel)))
  have w2 : ∀ w ∈ u_ws RX5 TX5 5, w ∈ WW (.code yX5_readLevel cX5_readLevel 2 (some .int)) := fun w h => List.mem_cons_of_mem _ (inlX5 w h)
  have w3 := hts (Cond.fieldLink RX5 26 "SightLegend$SignText" "at" "I") (List.mem_cons_of_mem _ (GL_35 _ (by decide +kernel)))
  have w4 := hts (Cond.fieldLink RX5 9 "SightLegend$SignText" "bytes" "[I") (List.mem_cons_of_mem _ (GL_4 _ (by decide +kernel)))
  have w5 : tyc 94 (0, 160) := ty_of (d := 1) (t1 := (0, 160)) (by decide +kernel) rfl tb
  unfold f_X5_readLevel at h
  refine a_sub (ls1 := [(0, Value.ref (ad 93))]) [0] rfl ?_
  refine a_aload_n (pc := 0) a 0 dX5_readLevel_0 rfl rfl ?_
  refine a_getI (pc := 1) a 3 3 rfl tb vc5 w2 w1 (by decide) (by decide) rfl dX5_readLevel_1 ?_
  refine a_iconst (pc := 4) a dX5_readLevel_4 ?_
  refine a_icmp_eq (pc := 5) a h.1 ⟨by decide, by decide⟩ dX5_readLevel_5 (tgt := 10) (by decide) (fun hq => ?_) (fun hq => ?_)
  · replace h := h.2.1 hq
    clear hq
    refine a_aload_n (pc := 10) a 0 dX5_readLevel_10 rfl rfl ?_
    refine a_aload_n (pc := 11) a 0 dX5_readLevel_11 rfl rfl ?_
    refine a_getI (pc := 12) a 4 4 rfl tb vc5 w2 w3 (by decide) (by decide) rfl dX5_readLevel_12 ?_
    refine a_cvi (pc := 15) a (As := [vI (σ 93 4)]) (rest := []) tb vc5 (fun sz => c_X5_isDigit hinj hl0  h sz) (cwV 1 hts (gl_V (GL_36 _ (by decide +kernel)) (GL_36 _ (by decide +kernel)) (GL_36 _ (by decide +kernel)) (GL_2 _ (by decide +kernel)) (GL_36 _ (by decide +kernel))) rfl rfl rfl (by decide +kernel) ⟨Nat.le_of_ble_eq_true rfl, Nat.le_of_ble_eq_true rfl⟩) rfl rfl (Nat.le_of_ble_eq_true rfl) ⟨Nat.le_of_ble_eq_true rfl, Nat.le_of_ble_eq_true rfl⟩ dX5_readLevel_15 ?_
    rintro x1 s9 ⟨hs9, h9⟩
    subst s9
    replace h := h9
    clear h9
    refine g_wj1 38 0 0 (fun x3 => [(0, Value.ref (ad 93))]) (fun x3 => [vI x3]) h ?_ ?_
    · clear h
      intro x3 h
      refine a_istore_n (pc := 38) a (ls1 := [(1, vI x3), (0, Value.ref (ad 93))]) dX5_readLevel_38 rfl (by decide) rfl ?_
      refine a_iload_n (pc := 39) a 0 dX5_readLevel_39 rfl rfl ?_
      refine a_bipush (pc := 40) a dX5_readLevel_40 (by decide) ?_
      refine a_icmp_lt (pc := 42) a h.1 ⟨by decide, by decide⟩ dX5_readLevel_42 (tgt := 55) (by decide) (fun hq => ?_) (fun hq => ?_)
      · replace h := h.2.1 hq
        clear hq
        refine a_aload_n (pc := 55) a 1 dX5_readLevel_55 rfl rfl ?_
        refine a_dup (pc := 56) a rfl dX5_readLevel_56 ?_
        refine a_getI (pc := 57) a 4 4 rfl tb vc5 w2 w3 (by decide) (by decide) rfl dX5_readLevel_57 ?_
        refine a_iconst (pc := 60) a dX5_readLevel_60 ?_
        refine a_iadd (pc := 61) a dX5_readLevel_61 ?_
        refine a_putI (pc := 62) a 4 4 rfl tb vc5 w2 w3 (by decide) (by decide) tyX5 tyX5_ok nmX5 rfl rfl (by decide +kernel) dX5_readLevel_62 ?_
        refine a_nmS (fun s4 hx => ?_)
        replace h := h s4 hx
        clear hx
        refine a_iload_n (pc := 65) a 0 dX5_readLevel_65 rfl rfl ?_
        exact e_i (pc := 66) a hr dX5_readLevel_66 h
      · replace h := h.2.2 hq
        clear hq
        refine a_aload_n (pc := 45) a 1 dX5_readLevel_45 rfl rfl ?_
        refine a_aload_n (pc := 46) a 1 dX5_readLevel_46 rfl rfl ?_
        refine a_getI (pc := 47) a 4 4 rfl tb vc5 w2 w3 (by decide) (by decide) rfl dX5_readLevel_47 ?_
        refine a_putI (pc := 50) a 3 3 rfl tb vc5 w2 w1 (by decide) (by decide) tyX5 tyX5_ok nmX5 rfl rfl (by decide +kernel) dX5_readLevel_50 ?_
        refine a_nmS (fun s5 hx => ?_)
        replace h := h s5 hx
        clear hx
        refine a_iconst (pc := 53) a dX5_readLevel_53 ?_
        exact e_i (pc := 54) a hr dX5_readLevel_54 h
    · clear h
      intro jj38 hjj38 h
      refine a_if_eq (pc := 18) a h.1 dX5_readLevel_18 (tgt := 36) (by decide) (fun hq => ?_) (fun hq => ?_)
      · replace h := h.2.1 hq
        clear hq
        refine a_bipush (pc := 36) a dX5_readLevel_36 (by decide) ?_
        exact hjj38 6 h
      · replace h := h.2.2 hq
        clear hq
        refine a_aload_n (pc := 21) a 0 dX5_readLevel_21 rfl rfl ?_
        refine a_getR (pc := 22) a 0 0 rfl tb vc5 w2 w4 (by decide) (by decide) 1 (q := 94) rfl rfl dX5_readLevel_22 ?_
        refine a_aload_n (pc := 25) a 0 dX5_readLevel_25 rfl rfl ?_
        refine a_getI (pc := 26) a 4 4 rfl tb vc5 w2 w3 (by decide) (by decide) rfl dX5_readLevel_26 ?_
        refine a_iald (pc := 29) a w5 (by decide) h.1 dX5_readLevel_29 ?_
        replace h := h.2
        refine a_bipush (pc := 30) a dX5_readLevel_30 (by decide) ?_
        refine a_isub (pc := 32) a dX5_readLevel_32 ?_
        refine a_goto (pc := 33) a dX5_readLevel_33 (tgt := 38) (by decide) ?_
        exact hjj38 ((σ 94 (σ 93 4)) - 48) h
  · replace h := h.2.2 hq
    clear hq
    refine a_iconst (pc := 8) a dX5_readLevel_8 ?_
    exact e_i (pc := 9) a hr dX5_readLevel_9 h

set_option maxRecDepth 100000 in
set_option maxHeartbeats 4000000 in
theorem c_X5_readSign {l : Launch} {D : va_G} {X : XI} {ad : Nat → Nat} (hinj : adI ad) (hl0 : l.stackTraces = false)   {σ : St} {K : St → Prop} (h : f_X5_readSign σ K) (sz : Nat) : Met l yX5_readSign (WW (.code yX5_readSign cX5_readSign 6 none)) { frames := 2, cells := 0, slots := 0, locals := 46 } (va_Pc [Value.ref (ad 93)] (WD D X ad σ sz)) (QV D X ad sz K) 0 0 (AA ad sz) := by
  refine a_start (cc := cX5_readSign) (maxL := 6) (ret := none) (own := RX5) [Value.ref (ad 93)] (by decide) rfl rfl (Nat.le_of_ble_eq_true rfl) hinj hl0 ?_
  intro p e s m below meth c a hr hsz
  subst hsz
  have hts := a.1.2.2.2.2
  have tb : tyc 93 (9, 0) := ⟨by decide, rfl⟩
  have w1 := hts (Cond.fieldLink RX5 29 "SightLegend$SignText" "error" "I") (List.mem_cons_of_mem _ (GL_35 _ (by decide +kernel)))
  have w2 : ∀ w ∈ u_ws RX5 TX5 5, w ∈ WW (.code yX5_readSign cX5_readSign 6 none) := fun w h => List.mem_cons_of_mem _ (inlX5 w h)
  have w3 := hts (Cond.fieldLink RX5 18 "SightLegend$SignText" "signs" "LSightLegend$MapState;") (List.mem_cons_of_mem _ (GL_4 _ (by decide +kernel)))
  have w4 : tyc 95 (7, 0) := ty_of (d := 2) (t1 := (7, 0)) (by decide +kernel) rfl tb
  unfold f_X5_readSign at h
  refine a_sub (ls1 := [(0, Value.ref (ad 93))]) [0] rfl ?_
  refine a_aload_n (pc := 0) a 0 dX5_readSign_0 rfl rfl ?_
  refine a_iconst (pc := 1) a dX5_readSign_1 ?_
  refine a_bipush (pc := 2) a dX5_readSign_2 (by decide) ?_
  refine a_cvi (pc := 4) a (As := [vI 2, vI 12]) (rest := []) tb vc5 (fun sz => c_X5_readNumber hinj hl0  h sz) (cwV 2 hts (gl_V (GL_36 _ (by decide +kernel)) (GL_36 _ (by decide +kernel)) (GL_36 _ (by decide +kernel)) (GL_2 _ (by decide +kernel)) (GL_36 _ (by decide +kernel))) rfl rfl rfl (by decide +kernel) ⟨Nat.le_of_ble_eq_true rfl, Nat.le_of_ble_eq_true rfl⟩) rfl rfl (Nat.le_of_ble_eq_true rfl) ⟨Nat.le_of_ble_eq_true rfl, Nat.le_of_ble_eq_true rfl⟩ dX5_readSign_4 ?_
  clear h
  intro x1 s2 h
  refine a_istore_n (pc := 7) a (ls1 := [(1, vI x1), (0, Value.ref (ad 93))]) dX5_readSign_7 rfl (by decide) rfl ?_
  refine a_aload_n (pc := 8) a 1 dX5_readSign_8 rfl rfl ?_
  refine a_bipush (pc := 9) a dX5_readSign_9 (by decide) ?_
  refine a_cvv (pc := 11) a (As := [vI 44]) (rest := []) tb vc5 (fun sz => c_X5_readByte hinj hl0  h sz) (cwV 1 hts (gl_V (GL_36 _ (by decide +kernel)) (GL_36 _ (by decide +kernel)) (GL_36 _ (by decide +kernel)) (GL_2 _ (by decide +kernel)) (GL_36 _ (by decide +kernel))) rfl rfl rfl (by decide +kernel) ⟨Nat.le_of_ble_eq_true rfl, Nat.le_of_ble_eq_true rfl⟩) rfl rfl (Nat.le_of_ble_eq_true rfl) ⟨Nat.le_of_ble_eq_true rfl, Nat.le_of_ble_eq_true rfl⟩ dX5_readSign_11 ?_
  clear h
  intro s3 h
  refine a_aload_n (pc := 14) a 1 dX5_readSign_14 rfl rfl ?_
  refine a_iconst (pc := 15) a dX5_readSign_15 ?_
  refine a_sipush (pc := 16) a dX5_readSign_16 (by decide) ?_
  refine a_cvi (pc := 19) a (As := [vI 3, vI 200]) (rest := []) tb vc5 (fun sz => c_X5_readNumber hinj hl0  h sz) (cwV 2 hts (gl_V (GL_36 _ (by decide +kernel)) (GL_36 _ (by decide +kernel)) (GL_36 _ (by decide +kernel)) (GL_2 _ (by decide +kernel)) (GL_36 _ (by decide +kernel))) rfl rfl rfl (by decide +kernel) ⟨Nat.le_of_ble_eq_true rfl, Nat.le_of_ble_eq_true rfl⟩) rfl rfl (Nat.le_of_ble_eq_true rfl) ⟨Nat.le_of_ble_eq_true rfl, Nat.le_of_ble_eq_true rfl⟩ dX5_readSign_19 ?_
  clear h
  intro x4 s5 h
  refine a_istore_n (pc := 22) a (ls1 := [(2, vI x4), (1, vI x1), (0, Value.ref (ad 93))]) dX5_readSign_22 rfl (by decide) rfl ?_
  refine a_aload_n (pc := 23) a 2 dX5_readSign_23 rfl rfl ?_
  refine a_bipush (pc := 24) a dX5_readSign_24 (by decide) ?_
  refine a_cvv (pc := 26) a (As := [vI 44]) (rest := []) tb vc5 (fun sz => c_X5_readByte hinj hl0  h sz) (cwV 1 hts (gl_V (GL_36 _ (by decide +kernel)) (GL_36 _ (by decide +kernel)) (GL_36 _ (by decide +kernel)) (GL_2 _ (by decide +kernel)) (GL_36 _ (by decide +kernel))) rfl rfl rfl (by decide +kernel) ⟨Nat.le_of_ble_eq_true rfl, Nat.le_of_ble_eq_true rfl⟩) rfl rfl (Nat.le_of_ble_eq_true rfl) ⟨Nat.le_of_ble_eq_true rfl, Nat.le_of_ble_eq_true rfl⟩ dX5_readSign_26 ?_
  clear h
  intro s6 h
  refine a_aload_n (pc := 29) a 2 dX5_readSign_29 rfl rfl ?_
  refine a_iconst (pc := 30) a dX5_readSign_30 ?_
  refine a_sipush (pc := 31) a dX5_readSign_31 (by decide) ?_
  refine a_cvi (pc := 34) a (As := [vI 3, vI 200]) (rest := []) tb vc5 (fun sz => c_X5_readNumber hinj hl0  h sz) (cwV 2 hts (gl_V (GL_36 _ (by decide +kernel)) (GL_36 _ (by decide +kernel)) (GL_36 _ (by decide +kernel)) (GL_2 _ (by decide +kernel)) (GL_36 _ (by decide +kernel))) rfl rfl rfl (by decide +kernel) ⟨Nat.le_of_ble_eq_true rfl, Nat.le_of_ble_eq_true rfl⟩) rfl rfl (Nat.le_of_ble_eq_true rfl) ⟨Nat.le_of_ble_eq_true rfl, Nat.le_of_ble_eq_true rfl⟩ dX5_readSign_34 ?_
  clear h
  intro x7 s8 h
  refine a_istore_n (pc := 37) a (ls1 := [(3, vI x7), (2, vI x4), (1, vI x1), (0, Value.ref (ad 93))]) dX5_readSign_37 rfl (by decide) rfl ?_
  refine a_aload_n (pc := 38) a 3 dX5_readSign_38 rfl rfl ?_
  refine a_bipush (pc := 39) a dX5_readSign_39 (by decide) ?_
  refine a_cvv (pc := 41) a (As := [vI 44]) (rest := []) tb vc5 (fun sz => c_X5_readByte hinj hl0  h sz) (cwV 1 hts (gl_V (GL_36 _ (by decide +kernel)) (GL_36 _ (by decide +kernel)) (GL_36 _ (by decide +kernel)) (GL_2 _ (by decide +kernel)) (GL_36 _ (by decide +kernel))) rfl rfl rfl (by decide +kernel) ⟨Nat.le_of_ble_eq_true rfl, Nat.le_of_ble_eq_true rfl⟩) rfl rfl (Nat.le_of_ble_eq_true rfl) ⟨Nat.le_of_ble_eq_true rfl, Nat.le_of_ble_eq_true rfl⟩ dX5_readSign_41 ?_
  clear h
  intro s9 h
  refine a_aload_n (pc := 44) a 3 dX5_readSign_44 rfl rfl ?_
  refine a_iconst (pc := 45) a dX5_readSign_45 ?_
  refine a_sipush (pc := 46) a dX5_readSign_46 (by decide) ?_
  refine a_cvi (pc := 49) a (As := [vI 4, vI 10000]) (rest := []) tb vc5 (fun sz => c_X5_readNumber hinj hl0  h sz) (cwV 2 hts (gl_V (GL_36 _ (by decide +kernel)) (GL_36 _ (by decide +kernel)) (GL_36 _ (by decide +kernel)) (GL_2 _ (by decide +kernel)) (GL_36 _ (by decide +kernel))) rfl rfl rfl (by decide +kernel) ⟨Nat.le_of_ble_eq_true rfl, Nat.le_of_ble_eq_true rfl⟩) rfl rfl (Nat.le_of_ble_eq_true rfl) ⟨Nat.le_of_ble_eq_true rfl, Nat.le_of_ble_eq_true rfl⟩ dX5_readSign_49 ?_
  clear h
  intro x10 s11 h
  refine a_istore (pc := 52) a (ls1 := [(4, vI x10), (3, vI x7), (2, vI x4), (1, vI x1), (0, Value.ref (ad 93))]) dX5_readSign_52 (by decide) rfl ?_
  refine a_aload_n (pc := 54) a 4 dX5_readSign_54 rfl rfl ?_
  refine a_bipush (pc := 55) a dX5_readSign_55 (by decide) ?_
  refine a_cvv (pc := 57) a (As := [vI 44]) (rest := []) tb vc5 (fun sz => c_X5_readByte hinj hl0  h sz) (cwV 1 hts (gl_V (GL_36 _ (by decide +kernel)) (GL_36 _ (by decide +kernel)) (GL_36 _ (by decide +kernel)) (GL_2 _ (by decide +kernel)) (GL_36 _ (by decide +kernel))) rfl rfl rfl (by decide +kernel) ⟨Nat.le_of_ble_eq_true rfl, Nat.le_of_ble_eq_true rfl⟩) rfl rfl (Nat.le_of_ble_eq_true rfl) ⟨Nat.le_of_ble_eq_true rfl, Nat.le_of_ble_eq_true rfl⟩ dX5_readSign_57 ?_
  clear h
  intro s12 h
  refine a_aload_n (pc := 60) a 4 dX5_readSign_60 rfl rfl ?_
  refine a_cvi (pc := 61) a (As := []) (rest := []) tb vc5 (fun sz => c_X5_readLevel hinj hl0  h sz) (cwV 0 hts (gl_V (GL_36 _ (by decide +kernel)) (GL_36 _ (by decide +kernel)) (GL_36 _ (by decide +kernel)) (GL_2 _ (by decide +kernel)) (GL_36 _ (by decide +kernel))) rfl rfl rfl (by decide +kernel) ⟨Nat.le_of_ble_eq_true rfl, Nat.le_of_ble_eq_true rfl⟩) rfl rfl (Nat.le_of_ble_eq_true rfl) ⟨Nat.le_of_ble_eq_true rfl, Nat.le_of_ble_eq_true rfl⟩ dX5_readSign_61 ?_
  clear h
  intro x13 s14 h
  refine a_istore (pc := 64) a (ls1 := [(5, vI x13), (4, vI x10), (3, vI x7), (2, vI x4), (1, vI x1), (0, Value.ref (ad 93))]) dX5_readSign_64 (by decide) rfl ?_
  refine a_aload_n (pc := 66) a 5 dX5_readSign_66 rfl rfl ?_
  refine a_bipush (pc := 67) a dX5_readSign_67 (by decide) ?_
  refine a_cvv (pc := 69) a (As := [vI 59]) (rest := []) tb vc5 (fun sz => c_X5_readByte hinj hl0  h sz) (cwV 1 hts (gl_V (GL_36 _ (by decide +kernel)) (GL_36 _ (by decide +kernel)) (GL_36 _ (by decide +kernel)) (GL_2 _ (by decide +kernel)) (GL_36 _ (by decide +kernel))) rfl rfl rfl (by decide +kernel) ⟨Nat.le_of_ble_eq_true rfl, Nat.le_of_ble_eq_true rfl⟩) rfl rfl (Nat.le_of_ble_eq_true rfl) ⟨Nat.le_of_ble_eq_true rfl, Nat.le_of_ble_eq_true rfl⟩ dX5_readSign_69 ?_
  clear h
  intro s15 h
  refine a_aload_n (pc := 72) a 5 dX5_readSign_72 rfl rfl ?_
  refine a_getI (pc := 73) a 3 3 rfl tb vc5 w2 w1 (by decide) (by decide) rfl dX5_readSign_73 ?_
  refine a_iconst (pc := 76) a dX5_readSign_76 ?_
  refine a_icmp_ne (pc := 77) a h.1 ⟨by decide, by decide⟩ dX5_readSign_77 (tgt := 94) (by decide) (fun hq => ?_) (fun hq => ?_)
  · replace h := h.2.1 hq
    clear hq
    exact e_v (pc := 94) a hr dX5_readSign_94 h
  · replace h := h.2.2 hq
    clear hq
    refine a_aload_n (pc := 80) a 5 dX5_readSign_80 rfl rfl ?_
    refine a_getR (pc := 81) a 2 2 rfl tb vc5 w2 w3 (by decide) (by decide) 2 (q := 95) rfl rfl dX5_readSign_81 ?_
    refine a_iload_n (pc := 84) a 4 dX5_readSign_84 rfl rfl ?_
    refine a_iload_n (pc := 85) a 3 dX5_readSign_85 rfl rfl ?_
    refine a_iload_n (pc := 86) a 2 dX5_readSign_86 rfl rfl ?_
    refine a_iload (pc := 87) a 1 dX5_readSign_87 rfl ?_
    refine a_iload (pc := 89) a 0 dX5_readSign_89 rfl ?_
    refine a_cvv (pc := 91) a (As := [vI x1, vI x4, vI x7, vI x10, vI x13]) (rest := []) w4 vc3 (fun sz => c_X3_putSign hinj hl0 w4 h sz) (cwV 5 hts (gl_V (GL_36 _ (by decide +kernel)) (GL_7 _ (by decide +kernel)) (GL_7 _ (by decide +kernel)) (GL_1 _ (by decide +kernel)) (GL_7 _ (by decide +kernel))) rfl rfl rfl (by decide +kernel) ⟨Nat.le_of_ble_eq_true rfl, Nat.le_of_ble_eq_true rfl⟩) rfl rfl (Nat.le_of_ble_eq_true rfl) ⟨Nat.le_of_ble_eq_true rfl, Nat.le_of_ble_eq_true rfl⟩ dX5_readSign_91 ?_
    clear h
    intro s16 h
    exact e_v (pc := 94) a hr dX5_readSign_94 h

set_option maxRecDepth 100000 in
set_option maxHeartbeats 4000000 in
theorem c_X5_read {l : Launch} {D : va_G} {X : XI} {ad : Nat → Nat} (hinj : adI ad) (hl0 : l.stackTraces = false)   {σ : St} {K : St → Prop} (h : f_X5_read σ K) (sz : Nat) : Met l yX5_read (WW (.code yX5_read cX5_read 2 none)) { frames := 3, cells := 0, slots := 0, locals := 71 } (va_Pc [Value.ref (ad 93)] (WD D X ad σ sz)) (QV D X ad sz K) 0 0 (AA ad sz) := by
  refine a_start (cc := cX5_read) (maxL := 2) (ret := none) (own := RX5) [Value.ref (ad 93)] (by decide) rfl rfl (Nat.le_of_ble_eq_true rfl) hinj hl0 ?_
  intro p e s m below meth c a hr hsz
  subst hsz
  have hts := a.1.2.2.2.2
  have tb : tyc 93 (9, 0) := ⟨by decide, rfl⟩
  have w1 := hts (Cond.fieldLink RX5 26 "SightLegend$SignText" "at" "I") (List.mem_cons_of_mem _ (GL_35 _ (by decide +kernel)))
  have w2 : ∀ w ∈ u_ws RX5 TX5 5, w ∈ WW (.code yX5_read cX5_read 2 none) := fun w h => List.mem_cons_of_mem _ (inlX5 w h)
  have w3 := hts (Cond.fieldLink RX5 29 "SightLegend$SignText" "error" "I") (List.mem_cons_of_mem _ (GL_35 _ (by decide +kernel)))
  have w4 := hts (Cond.fieldLink RX5 18 "SightLegend$SignText" "signs" "LSightLegend$MapState;") (List.mem_cons_of_mem _ (GL_4 _ (by decide +kernel)))
  have w5 : tyc 95 (7, 0) := ty_of (d := 2) (t1 := (7, 0)) (by decide +kernel) rfl tb
  have w6 := hts (Cond.fieldLink RX5 32 "SightLegend$MapState" "signCount" "I") (List.mem_cons_of_mem _ (GL_35 _ (by decide +kernel)))
  have w7 : ∀ w ∈ u_ws RX3 TX3 13, w ∈ WW (.code yX5_read cX5_read 2 none) := fun w h => List.mem_cons_of_mem _ (inlX3 w h)
  have w8 := hts (Cond.fieldLink RX5 22 "SightLegend$SignText" "length" "I") (List.mem_cons_of_mem _ (GL_34 _ (by decide +kernel)))
  unfold f_X5_read at h
  refine a_sub (ls1 := [(0, Value.ref (ad 93))]) [0] rfl ?_
  refine a_aload_n (pc := 0) a 0 dX5_read_0 rfl rfl ?_
  refine a_iconst (pc := 1) a dX5_read_1 ?_
  refine a_putI (pc := 2) a 4 4 rfl tb vc5 w2 w1 (by decide) (by decide) tyX5 tyX5_ok nmX5 rfl rfl (by decide +kernel) dX5_read_2 ?_
  refine a_nmS (fun s1 hx => ?_)
  replace h := h s1 hx
  clear hx
  refine a_aload_n (pc := 5) a 0 dX5_read_5 rfl rfl ?_
  refine a_iconst (pc := 6) a dX5_read_6 ?_
  refine a_putI (pc := 7) a 3 3 rfl tb vc5 w2 w3 (by decide) (by decide) tyX5 tyX5_ok nmX5 rfl rfl (by decide +kernel) dX5_read_7 ?_
  refine a_nmS (fun s2 hx => ?_)
  replace h := h s2 hx
  clear hx
  refine a_aload_n (pc := 10) a 0 dX5_read_10 rfl rfl ?_
  refine a_getR (pc := 11) a 2 2 rfl tb vc5 w2 w4 (by decide) (by decide) 2 (q := 95) rfl rfl dX5_read_11 ?_
  refine a_iconst (pc := 14) a dX5_read_14 ?_
  refine a_putI (pc := 15) a 5 5 rfl w5 vc3 w7 w6 (by decide) (by decide) tyX3 tyX3_ok nmX3 rfl rfl (by decide +kernel) dX5_read_15 ?_
  refine a_nmS (fun s3 hx => ?_)
  replace h := h s3 hx
  clear hx
  refine a_iconst (pc := 18) a dX5_read_18 ?_
  refine a_istore_n (pc := 19) a (ls1 := [(1, vI 0), (0, Value.ref (ad 93))]) dX5_read_19 rfl (by decide) rfl ?_
  refine a_sub (ls1 := [(0, Value.ref (ad 93)), (1, vI 0)]) [1, 0] rfl ?_
  refine g_wl1s (fun x4 => [(0, Value.ref (ad 93)), (1, vI x4)]) h ?_
  clear h
  intro x4 s5 ag20 hag20 h
  refine a_iload_n (pc := 20) a 1 dX5_read_20 rfl rfl ?_
  refine a_bipush (pc := 21) a dX5_read_21 (by decide) ?_
  refine a_icmp_gt (pc := 23) a h.1 ⟨by decide, by decide⟩ dX5_read_23 (tgt := 72) (by decide) (fun hq => ?_) (fun hq => ?_)
  · replace h := h.2.1 hq
    clear hq
    exact e_v (pc := 72) a hr dX5_read_72 h
  · replace h := h.2.2 hq
    clear hq
    refine a_aload_n (pc := 26) a 0 dX5_read_26 rfl rfl ?_
    refine a_getI (pc := 27) a 4 4 rfl tb vc5 w2 w1 (by decide) (by decide) rfl dX5_read_27 ?_
    refine a_aload_n (pc := 30) a 0 dX5_read_30 rfl rfl ?_
    refine a_getI (pc := 31) a 1 1 rfl tb vc5 w2 w8 (by decide) (by decide) rfl dX5_read_31 ?_
    refine a_icmp_ge (pc := 34) a h.1 h.2.1 dX5_read_34 (tgt := 72) (by decide) (fun hq => ?_) (fun hq => ?_)
    · replace h := h.2.2.1 hq
      clear hq
      exact e_v (pc := 72) a hr dX5_read_72 h
    · replace h := h.2.2.2 hq
      clear hq
      refine a_aload_n (pc := 37) a 0 dX5_read_37 rfl rfl ?_
      refine a_getI (pc := 38) a 3 3 rfl tb vc5 w2 w3 (by decide) (by decide) rfl dX5_read_38 ?_
      refine a_iconst (pc := 41) a dX5_read_41 ?_
      refine a_icmp_ne (pc := 42) a h.1 ⟨by decide, by decide⟩ dX5_read_42 (tgt := 72) (by decide) (fun hq => ?_) (fun hq => ?_)
      · replace h := h.2.1 hq
        clear hq
        exact e_v (pc := 72) a hr dX5_read_72 h
      · replace h := h.2.2 hq
        clear hq
        refine a_iload_n (pc := 45) a 1 dX5_read_45 rfl rfl ?_
        refine a_bipush (pc := 46) a dX5_read_46 (by decide) ?_
        refine a_icmp_ge (pc := 48) a h.1 ⟨by decide, by decide⟩ dX5_read_48 (tgt := 58) (by decide) (fun hq => ?_) (fun hq => ?_)
        · replace h := h.2.1 hq
          clear hq
          refine a_aload_n (pc := 58) a 0 dX5_read_58 rfl rfl ?_
          refine a_aload_n (pc := 59) a 0 dX5_read_59 rfl rfl ?_
          refine a_getI (pc := 60) a 4 4 rfl tb vc5 w2 w1 (by decide) (by decide) rfl dX5_read_60 ?_
          refine a_putI (pc := 63) a 3 3 rfl tb vc5 w2 w3 (by decide) (by decide) tyX5 tyX5_ok nmX5 rfl rfl (by decide +kernel) dX5_read_63 ?_
          refine a_nmS (fun s6 hx => ?_)
          replace h := h s6 hx
          clear hx
          refine a_iinc (pc := 66) a (ls1 := [(1, vI (x4 + 1)), (0, Value.ref (ad 93))]) 1 dX5_read_66 rfl (by decide) rfl ?_
          refine a_goto (pc := 69) a dX5_read_69 (tgt := 20) (by decide) ?_
          refine a_sub (ls1 := [(0, Value.ref (ad 93)), (1, vI (x4 + 1))]) [1, 0] rfl ?_
          exact hag20 (x4 + 1) s6 h
        · replace h := h.2.2 hq
          clear hq
          refine a_aload_n (pc := 51) a 0 dX5_read_51 rfl rfl ?_
          refine a_cvv (pc := 52) a (As := []) (rest := []) tb vc5 (fun sz => c_X5_readSign hinj hl0  h sz) (cwV 0 hts (gl_V (GL_35 _ (by decide +kernel)) (GL_35 _ (by decide +kernel)) (GL_35 _ (by decide +kernel)) (GL_2 _ (by decide +kernel)) (GL_35 _ (by decide +kernel))) rfl rfl rfl (by decide +kernel) ⟨Nat.le_of_ble_eq_true rfl, Nat.le_of_ble_eq_true rfl⟩) rfl rfl (Nat.le_of_ble_eq_true rfl) ⟨Nat.le_of_ble_eq_true rfl, Nat.le_of_ble_eq_true rfl⟩ dX5_read_52 ?_
          clear h
          intro s7 h
          refine a_goto (pc := 55) a dX5_read_55 (tgt := 66) (by decide) ?_
          refine a_iinc (pc := 66) a (ls1 := [(1, vI (x4 + 1)), (0, Value.ref (ad 93))]) 1 dX5_read_66 rfl (by decide) rfl ?_
          refine a_goto (pc := 69) a dX5_read_69 (tgt := 20) (by decide) ?_
          refine a_sub (ls1 := [(0, Value.ref (ad 93)), (1, vI (x4 + 1))]) [1, 0] rfl ?_
          exact hag20 (x4 + 1) s7 h
