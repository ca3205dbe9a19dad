theorem ty_saved {i : Int} (h : 0 ≤ i ∧ i < 4) : tyc (109 + 13 * i.toNat) (7, 0) := by
  have : i = 0 ∨ i = 1 ∨ i = 2 ∨ i = 3 := by omega
  rcases this with rfl | rfl | rfl | rfl <;> exact ⟨by decide, by decide +kernel⟩
theorem vc0 : vwCl[0]? = some (RX0, TX0, 6) := rfl
theorem vc1 : vwCl[1]? = some (RX1, TX1, 12) := rfl
theorem vc2 : vwCl[2]? = some (RX2, TX2, 14) := rfl
theorem vc3 : vwCl[3]? = some (RX3, TX3, 13) := rfl
theorem vc4 : vwCl[4]? = some (RX4, TX4, 6) := rfl
theorem vc5 : vwCl[5]? = some (RX5, TX5, 5) := rfl
theorem vc6 : vwCl[6]? = some (RX6, TX6, 8) := rfl
set_option maxRecDepth 100000 in
set_option maxHeartbeats 4000000 in
theorem c_X3_isInWindow {l : Launch} {D : va_G} {X : XI} {ad : Nat → Nat} (hinj : adI ad) (hl0 : l.stackTraces = false) {b : Nat} {p1 : Int} (tb : tyc b (7, 0)) {σ : St} {K : Int → Prop} (h : f_X3_isInWindow b p1 σ K) (sz : Nat) : Met l yX3_isInWindow (WW (.code yX3_isInWindow cX3_isInWindow 4 (some .boolean))) { frames := 0, cells := 0, slots := 0, locals := 0 } (va_Pc [Value.ref (ad b), vI p1] (WD D X ad σ sz)) (QI D X ad sz (fun r τ => τ = σ ∧ K r)) 0 0 (AA ad sz) := by
  refine a_start (cc := cX3_isInWindow) (maxL := 4) (ret := (some .boolean)) (own := RX3) [Value.ref (ad b), vI p1] (by decide) rfl rfl (Nat.le_of_ble_eq_true rfl) hinj hl0 ?_
  intro p e s m below meth c a hr hsz
  subst hsz
  have hts := a.1.2.2.2.2
  have w1 := hts (Cond.fieldLink RX3 15 "SightLegend$MapState" "signColumn" "[I") (List.mem_cons_of_mem _ (GL_2 _ (by decide +kernel)))
  have w2 : ∀ w ∈ u_ws RX3 TX3 13, w ∈ WW (.code yX3_isInWindow cX3_isInWindow 4 (some .boolean)) := fun w h => List.mem_cons_of_mem _ (inlX3 w h)
  have w3 : tyc (b + 2) (0, 40) := ty_of (d := 2) (t1 := (0, 40)) (by decide +kernel) rfl tb
  have w4 := hts (Cond.fieldLink RX3 42 "SightLegend$MapState" "window" "[I") (List.mem_cons_of_mem _ (GL_2 _ (by decide +kernel)))
  have w5 : tyc (b + 11) (0, 5) := ty_of (d := 11) (t1 := (0, 5)) (by decide +kernel) rfl tb
  have w6 := hts (Cond.fieldLink RX3 18 "SightLegend$MapState" "signRow" "[I") (List.mem_cons_of_mem _ (GL_2 _ (by decide +kernel)))
  have w7 : tyc (b + 3) (0, 40) := ty_of (d := 3) (t1 := (0, 40)) (by decide +kernel) rfl tb
  unfold f_X3_isInWindow at h
  refine a_sub (ls1 := [(0, Value.ref (ad b)), (1, vI p1)]) [0, 1] rfl ?_
  refine a_aload_n (pc := 0) a 0 dX3_isInWindow_0 rfl rfl ?_
  refine a_getR (pc := 1) a 1 1 rfl tb vc3 w2 w1 (by decide) (by decide) 2 (q := (b + 2)) rfl rfl dX3_isInWindow_1 ?_
  refine a_iload_n (pc := 4) a 1 dX3_isInWindow_4 rfl rfl ?_
  refine a_iald (pc := 5) a (tw hinj w3) (by decide) h.1 dX3_isInWindow_5 ?_
  replace h := h.2
  refine a_aload_n (pc := 6) a 0 dX3_isInWindow_6 rfl rfl ?_
  refine a_getR (pc := 7) a 11 11 rfl tb vc3 w2 w4 (by decide) (by decide) 11 (q := (b + 11)) rfl rfl dX3_isInWindow_7 ?_
  refine a_iconst (pc := 10) a dX3_isInWindow_10 ?_
  refine a_iald (pc := 11) a (tw hinj w5) (by decide) (by decide) dX3_isInWindow_11 ?_
  refine a_isub (pc := 12) a dX3_isInWindow_12 ?_
  refine a_nm (fun x1 hx => ?_)
  replace h := h x1 hx
  clear hx
  refine a_istore_n (pc := 13) a (ls1 := [(2, vI x1), (0, Value.ref (ad b)), (1, vI p1)]) dX3_isInWindow_13 rfl (by decide) rfl ?_
  refine a_aload_n (pc := 14) a 1 dX3_isInWindow_14 rfl rfl ?_
  refine a_getR (pc := 15) a 2 2 rfl tb vc3 w2 w6 (by decide) (by decide) 3 (q := (b + 3)) rfl rfl dX3_isInWindow_15 ?_
  refine a_iload_n (pc := 18) a 2 dX3_isInWindow_18 rfl rfl ?_
  refine a_iald (pc := 19) a (tw hinj w7) (by decide) h.1 dX3_isInWindow_19 ?_
  replace h := h.2
  refine a_aload_n (pc := 20) a 1 dX3_isInWindow_20 rfl rfl ?_
  refine a_getR (pc := 21) a 11 11 rfl tb vc3 w2 w4 (by decide) (by decide) 11 (q := (b + 11)) rfl rfl dX3_isInWindow_21 ?_
  refine a_iconst (pc := 24) a dX3_isInWindow_24 ?_
  refine a_iald (pc := 25) a (tw hinj w5) (by decide) (by decide) dX3_isInWindow_25 ?_
  refine a_isub (pc := 26) a dX3_isInWindow_26 ?_
  refine a_nm (fun x2 hx => ?_)
  replace h := h x2 hx
  clear hx
  refine a_istore_n (pc := 27) a (ls1 := [(3, vI x2), (2, vI x1), (0, Value.ref (ad b)), (1, vI p1)]) dX3_isInWindow_27 rfl (by decide) rfl ?_
  refine a_iload_n (pc := 28) a 1 dX3_isInWindow_28 rfl rfl ?_
  refine a_if_lt (pc := 29) a h.1 dX3_isInWindow_29 (tgt := 60) (by decide) (fun hq => ?_) (fun hq => ?_)
  · replace h := h.2.1 hq
    clear hq
    refine a_iconst (pc := 60) a dX3_isInWindow_60 ?_
    exact e_z (pc := 61) a hr (by decide) dX3_isInWindow_61 ⟨rfl, h⟩
  · replace h := h.2.2 hq
    clear hq
    refine a_iload_n (pc := 32) a 1 dX3_isInWindow_32 rfl rfl ?_
    refine a_aload_n (pc := 33) a 2 dX3_isInWindow_33 rfl rfl ?_
    refine a_getR (pc := 34) a 11 11 rfl tb vc3 w2 w4 (by decide) (by decide) 11 (q := (b + 11)) rfl rfl dX3_isInWindow_34 ?_
    refine a_iconst (pc := 37) a dX3_isInWindow_37 ?_
    refine a_iald (pc := 38) a (tw hinj w5) (by decide) (by decide) dX3_isInWindow_38 ?_
    refine a_icmp_ge (pc := 39) a h.1 h.2.1 dX3_isInWindow_39 (tgt := 60) (by decide) (fun hq => ?_) (fun hq => ?_)
    · replace h := h.2.2.1 hq
      clear hq
      refine a_iconst (pc := 60) a dX3_isInWindow_60 ?_
      exact e_z (pc := 61) a hr (by decide) dX3_isInWindow_61 ⟨rfl, h⟩
    · replace h := h.2.2.2 hq
      clear hq
      refine a_iload_n (pc := 42) a 0 dX3_isInWindow_42 rfl rfl ?_
      refine a_if_lt (pc := 43) a h.1 dX3_isInWindow_43 (tgt := 60) (by decide) (fun hq => ?_) (fun hq => ?_)
      · replace h := h.2.1 hq
        clear hq
        refine a_iconst (pc := 60) a dX3_isInWindow_60 ?_
        exact e_z (pc := 61) a hr (by decide) dX3_isInWindow_61 ⟨rfl, h⟩
      · replace h := h.2.2 hq
        clear hq
        refine a_iload_n (pc := 46) a 0 dX3_isInWindow_46 rfl rfl ?_
        refine a_aload_n (pc := 47) a 2 dX3_isInWindow_47 rfl rfl ?_
        refine a_getR (pc := 48) a 11 11 rfl tb vc3 w2 w4 (by decide) (by decide) 11 (q := (b + 11)) rfl rfl dX3_isInWindow_48 ?_
        refine a_iconst (pc := 51) a dX3_isInWindow_51 ?_
        refine a_iald (pc := 52) a (tw hinj w5) (by decide) (by decide) dX3_isInWindow_52 ?_
        refine a_icmp_ge (pc := 53) a h.1 h.2.1 dX3_isInWindow_53 (tgt := 60) (by decide) (fun hq => ?_) (fun hq => ?_)
        · replace h := h.2.2.1 hq
          clear hq
          refine a_iconst (pc := 60) a dX3_isInWindow_60 ?_
          exact e_z (pc := 61) a hr (by decide) dX3_isInWindow_61 ⟨rfl, h⟩
        · replace h := h.2.2.2 hq
          clear hq
          refine a_iconst (pc := 56) a dX3_isInWindow_56 ?_
          refine a_goto (pc := 57) a dX3_isInWindow_57 (tgt := 61) (by decide) ?_
          exact e_z (pc := 61) a hr (by decide) dX3_isInWindow_61 ⟨rfl, h⟩

set_option maxRecDepth 100000 in
set_option maxHeartbeats 4000000 in
theorem c_X3_isShown {l : Launch} {D : va_G} {X : XI} {ad : Nat → Nat} (hinj : adI ad) (hl0 : l.stackTraces = false) {b : Nat} {p1 : Int} (tb : tyc b (7, 0)) {σ : St} {K : Int → Prop} (h : f_X3_isShown b p1 σ K) (sz : Nat) : Met l yX3_isShown (WW (.code yX3_isShown cX3_isShown 2 (some .boolean))) { frames := 1, cells := 0, slots := 0, locals := 23 } (va_Pc [Value.ref (ad b), vI p1] (WD D X ad σ sz)) (QI D X ad sz (fun r τ => τ = σ ∧ K r)) 0 0 (AA ad sz) := by
  refine a_start (cc := cX3_isShown) (maxL := 2) (ret := (some .boolean)) (own := RX3) [Value.ref (ad b), vI p1] (by decide) rfl rfl (Nat.le_of_ble_eq_true rfl) hinj hl0 ?_
  intro p e s m below meth c a hr hsz
  subst hsz
  have hts := a.1.2.2.2.2
  have w1 := hts (Cond.fieldLink RX3 24 "SightLegend$MapState" "signLevel" "[I") (List.mem_cons_of_mem _ (GL_2 _ (by decide +kernel)))
  have w2 : ∀ w ∈ u_ws RX3 TX3 13, w ∈ WW (.code yX3_isShown cX3_isShown 2 (some .boolean)) := fun w h => List.mem_cons_of_mem _ (inlX3 w h)
  have w3 : tyc (b + 5) (0, 40) := ty_of (d := 5) (t1 := (0, 40)) (by decide +kernel) rfl tb
  have w4 := hts (Cond.fieldLink RX3 42 "SightLegend$MapState" "window" "[I") (List.mem_cons_of_mem _ (GL_2 _ (by decide +kernel)))
  have w5 : tyc (b + 11) (0, 5) := ty_of (d := 11) (t1 := (0, 5)) (by decide +kernel) rfl tb
  unfold f_X3_isShown at h
  refine a_sub (ls1 := [(0, Value.ref (ad b)), (1, vI p1)]) [0, 1] rfl ?_
  refine a_aload_n (pc := 0) a 0 dX3_isShown_0 rfl rfl ?_
  refine a_getR (pc := 1) a 4 4 rfl tb vc3 w2 w1 (by decide) (by decide) 5 (q := (b + 5)) rfl rfl dX3_isShown_1 ?_
  refine a_iload_n (pc := 4) a 1 dX3_isShown_4 rfl rfl ?_
  refine a_iald (pc := 5) a (tw hinj w3) (by decide) h.1 dX3_isShown_5 ?_
  replace h := h.2
  refine a_aload_n (pc := 6) a 0 dX3_isShown_6 rfl rfl ?_
  refine a_getR (pc := 7) a 11 11 rfl tb vc3 w2 w4 (by decide) (by decide) 11 (q := (b + 11)) rfl rfl dX3_isShown_7 ?_
  refine a_iconst (pc := 10) a dX3_isShown_10 ?_
  refine a_iald (pc := 11) a (tw hinj w5) (by decide) (by decide) dX3_isShown_11 ?_
  refine a_icmp_gt (pc := 12) a h.1 h.2.1 dX3_isShown_12 (tgt := 27) (by decide) (fun hq => ?_) (fun hq => ?_)
  · replace h := h.2.2.1 hq
    clear hq
    refine a_iconst (pc := 27) a dX3_isShown_27 ?_
    exact e_z (pc := 28) a hr (by decide) dX3_isShown_28 ⟨rfl, h⟩
  · replace h := h.2.2.2 hq
    clear hq
    refine a_aload_n (pc := 15) a 0 dX3_isShown_15 rfl rfl ?_
    refine a_iload_n (pc := 16) a 1 dX3_isShown_16 rfl rfl ?_
    refine a_cvi (pc := 17) a (As := [vI p1]) (rest := []) tb vc3 (fun sz => c_X3_isInWindow hinj hl0 tb h sz) (cwV 1 hts (gl_V (GL_8 _ (by decide +kernel)) (GL_8 _ (by decide +kernel)) (GL_8 _ (by decide +kernel)) (GL_1 _ (by decide +kernel)) (GL_8 _ (by decide +kernel))) rfl rfl rfl (by decide +kernel) ⟨Nat.le_of_ble_eq_true rfl, Nat.le_of_ble_eq_true rfl⟩) rfl rfl (Nat.le_of_ble_eq_true rfl) ⟨Nat.le_of_ble_eq_true rfl, Nat.le_of_ble_eq_true rfl⟩ dX3_isShown_17 ?_
    rintro x1 s9 ⟨hs9, h9⟩
    subst s9
    replace h := h9
    clear h9
    refine a_if_eq (pc := 20) a h.1 dX3_isShown_20 (tgt := 27) (by decide) (fun hq => ?_) (fun hq => ?_)
    · replace h := h.2.1 hq
      clear hq
      refine a_iconst (pc := 27) a dX3_isShown_27 ?_
      exact e_z (pc := 28) a hr (by decide) dX3_isShown_28 ⟨rfl, h⟩
    · replace h := h.2.2 hq
      clear hq
      refine a_iconst (pc := 23) a dX3_isShown_23 ?_
      refine a_goto (pc := 24) a dX3_isShown_24 (tgt := 28) (by decide) ?_
      exact e_z (pc := 28) a hr (by decide) dX3_isShown_28 ⟨rfl, h⟩

set_option maxRecDepth 100000 in
set_option maxHeartbeats 4000000 in
theorem c_X3_classOf {l : Launch} {D : va_G} {X : XI} {ad : Nat → Nat} (hinj : adI ad) (hl0 : l.stackTraces = false) {b : Nat} {p1 : Int} (tb : tyc b (7, 0)) {σ : St} {K : Int → Prop} (h : f_X3_classOf b p1 σ K) (sz : Nat) : Met l yX3_classOf (WW (.code yX3_classOf cX3_classOf 5 (some .int))) { frames := 0, cells := 0, slots := 0, locals := 0 } (va_Pc [Value.ref (ad b), vI p1] (WD D X ad σ sz)) (QI D X ad sz (fun r τ => τ = σ ∧ K r)) 0 0 (AA ad sz) := by
  refine a_start (cc := cX3_classOf) (maxL := 5) (ret := (some .int)) (own := RX3) [Value.ref (ad b), vI p1] (by decide) rfl rfl (Nat.le_of_ble_eq_true rfl) hinj hl0 ?_
  intro p e s m below meth c a hr hsz
  subst hsz
  have hts := a.1.2.2.2.2
  have w1 := hts (Cond.fieldLink RX3 9 "SightLegend$MapState" "signKind" "[I") (List.mem_cons_of_mem _ (GL_2 _ (by decide +kernel)))
  have w2 : ∀ w ∈ u_ws RX3 TX3 13, w ∈ WW (.code yX3_classOf cX3_classOf 5 (some .int)) := fun w h => List.mem_cons_of_mem _ (inlX3 w h)
  have w3 : tyc (b + 1) (0, 40) := ty_of (d := 1) (t1 := (0, 40)) (by decide +kernel) rfl tb
  have w4 := hts (Cond.fieldLink RX3 33 "SightLegend$MapState" "limitCount" "[I") (List.mem_cons_of_mem _ (GL_2 _ (by decide +kernel)))
  have w5 : tyc (b + 8) (0, 12) := ty_of (d := 8) (t1 := (0, 12)) (by decide +kernel) rfl tb
  have w6 := hts (Cond.fieldLink RX3 36 "SightLegend$MapState" "limits" "[I") (List.mem_cons_of_mem _ (GL_2 _ (by decide +kernel)))
  have w7 : tyc (b + 9) (0, 60) := ty_of (d := 9) (t1 := (0, 60)) (by decide +kernel) rfl tb
  have w8 := hts (Cond.fieldLink RX3 21 "SightLegend$MapState" "signValue" "[I") (List.mem_cons_of_mem _ (GL_2 _ (by decide +kernel)))
  have w9 : tyc (b + 4) (0, 40) := ty_of (d := 4) (t1 := (0, 40)) (by decide +kernel) rfl tb
  unfold f_X3_classOf at h
  refine a_sub (ls1 := [(0, Value.ref (ad b)), (1, vI p1)]) [0, 1] rfl ?_
  refine a_aload_n (pc := 0) a 0 dX3_classOf_0 rfl rfl ?_
  refine a_getR (pc := 1) a 0 0 rfl tb vc3 w2 w1 (by decide) (by decide) 1 (q := (b + 1)) rfl rfl dX3_classOf_1 ?_
  refine a_iload_n (pc := 4) a 1 dX3_classOf_4 rfl rfl ?_
  refine a_iald (pc := 5) a (tw hinj w3) (by decide) h.1 dX3_classOf_5 ?_
  replace h := h.2
  refine a_nm (fun x1 hx => ?_)
  replace h := h x1 hx
  clear hx
  refine a_istore_n (pc := 6) a (ls1 := [(2, vI x1), (0, Value.ref (ad b)), (1, vI p1)]) dX3_classOf_6 rfl (by decide) rfl ?_
  refine a_iconst (pc := 7) a dX3_classOf_7 ?_
  refine a_istore_n (pc := 8) a (ls1 := [(3, vI 0), (2, vI x1), (0, Value.ref (ad b)), (1, vI p1)]) dX3_classOf_8 rfl (by decide) rfl ?_
  refine a_iconst (pc := 9) a dX3_classOf_9 ?_
  refine a_istore (pc := 10) a (ls1 := [(4, vI 0), (3, vI 0), (2, vI x1), (0, Value.ref (ad b)), (1, vI p1)]) dX3_classOf_10 (by decide) rfl ?_
  refine a_sub (ls1 := [(0, Value.ref (ad b)), (1, vI p1), (2, vI x1), (3, vI 0), (4, vI 0)]) [3, 4, 2, 1, 0] rfl ?_
  refine g_wl2 (fun x2 x3 => [(0, Value.ref (ad b)), (1, vI p1), (2, vI x1), (3, vI x2), (4, vI x3)]) h ?_
  clear h
  intro x2 x3 ag12 hag12 h
  refine a_iload (pc := 12) a 4 dX3_classOf_12 rfl ?_
  refine a_aload_n (pc := 14) a 0 dX3_classOf_14 rfl rfl ?_
  refine a_getR (pc := 15) a 8 8 rfl tb vc3 w2 w4 (by decide) (by decide) 8 (q := (b + 8)) rfl rfl dX3_classOf_15 ?_
  refine a_iload_n (pc := 18) a 2 dX3_classOf_18 rfl rfl ?_
  refine a_iald (pc := 19) a (tw hinj w5) (by decide) h.1 dX3_classOf_19 ?_
  replace h := h.2
  refine a_icmp_ge (pc := 20) a h.1 h.2.1 dX3_classOf_20 (tgt := 52) (by decide) (fun hq => ?_) (fun hq => ?_)
  · replace h := h.2.2.1 hq
    clear hq
    refine a_iload_n (pc := 52) a 3 dX3_classOf_52 rfl rfl ?_
    exact e_i (pc := 53) a hr dX3_classOf_53 ⟨rfl, h⟩
  · replace h := h.2.2.2 hq
    clear hq
    refine a_aload_n (pc := 23) a 0 dX3_classOf_23 rfl rfl ?_
    refine a_getR (pc := 24) a 9 9 rfl tb vc3 w2 w6 (by decide) (by decide) 9 (q := (b + 9)) rfl rfl dX3_classOf_24 ?_
    refine a_iload_n (pc := 27) a 2 dX3_classOf_27 rfl rfl ?_
    refine a_iconst (pc := 28) a dX3_classOf_28 ?_
    refine a_imul (pc := 29) a dX3_classOf_29 ?_
    refine a_iload (pc := 30) a 4 dX3_classOf_30 rfl ?_
    refine a_iadd (pc := 32) a dX3_classOf_32 ?_
    refine a_iald (pc := 33) a (tw hinj w7) (by decide) h.1 dX3_classOf_33 ?_
    replace h := h.2
    refine a_aload_n (pc := 34) a 0 dX3_classOf_34 rfl rfl ?_
    refine a_getR (pc := 35) a 3 3 rfl tb vc3 w2 w8 (by decide) (by decide) 4 (q := (b + 4)) rfl rfl dX3_classOf_35 ?_
    refine a_iload_n (pc := 38) a 1 dX3_classOf_38 rfl rfl ?_
    refine a_iald (pc := 39) a (tw hinj w9) (by decide) h.1 dX3_classOf_39 ?_
    replace h := h.2
    refine a_icmp_gt (pc := 40) a h.1 h.2.1 dX3_classOf_40 (tgt := 46) (by decide) (fun hq => ?_) (fun hq => ?_)
    · replace h := h.2.2.1 hq
      clear hq
      refine a_iinc (pc := 46) a (ls1 := [(4, vI (x3 + 1)), (0, Value.ref (ad b)), (1, vI p1), (2, vI x1), (3, vI x2)]) 4 dX3_classOf_46 rfl (by decide) rfl ?_
      refine a_goto (pc := 49) a dX3_classOf_49 (tgt := 12) (by decide) ?_
      refine a_sub (ls1 := [(0, Value.ref (ad b)), (1, vI p1), (2, vI x1), (3, vI x2), (4, vI (x3 + 1))]) [1, 2, 3, 4, 0] rfl ?_
      exact hag12 x2 (x3 + 1) h
    · replace h := h.2.2.2 hq
      clear hq
      refine a_iinc (pc := 43) a (ls1 := [(3, vI (x2 + 1)), (0, Value.ref (ad b)), (1, vI p1), (2, vI x1), (4, vI x3)]) 3 dX3_classOf_43 rfl (by decide) rfl ?_
      refine a_iinc (pc := 46) a (ls1 := [(4, vI (x3 + 1)), (3, vI (x2 + 1)), (0, Value.ref (ad b)), (1, vI p1), (2, vI x1)]) 4 dX3_classOf_46 rfl (by decide) rfl ?_
      refine a_goto (pc := 49) a dX3_classOf_49 (tgt := 12) (by decide) ?_
      refine a_sub (ls1 := [(0, Value.ref (ad b)), (1, vI p1), (2, vI x1), (3, vI (x2 + 1)), (4, vI (x3 + 1))]) [2, 3, 4, 1, 0] rfl ?_
      exact hag12 (x2 + 1) (x3 + 1) h

set_option maxRecDepth 100000 in
set_option maxHeartbeats 4000000 in
theorem c_X3_takeSigns {l : Launch} {D : va_G} {X : XI} {ad : Nat → Nat} (hinj : adI ad) (hl0 : l.stackTraces = false) {b : Nat} {q1 : Nat} (tb : tyc b (7, 0)) (tq1 : tyc q1 (7, 0)) {σ : St} {K : St → Prop} (h : f_X3_takeSigns b q1 σ K) (sz : Nat) : Met l yX3_takeSigns (WW (.code yX3_takeSigns cX3_takeSigns 2 none)) { frames := 1, cells := 0, slots := 0, locals := 24 } (va_Pc [Value.ref (ad b), Value.ref (ad q1)] (WD D X ad σ sz)) (QV D X ad sz K) 0 0 (AA ad sz) := by
  refine a_start (cc := cX3_takeSigns) (maxL := 2) (ret := none) (own := RX3) [Value.ref (ad b), Value.ref (ad q1)] (by decide) rfl rfl (Nat.le_of_ble_eq_true rfl) hinj hl0 ?_
  intro p e s m below meth c a hr hsz
  subst hsz
  have hts := a.1.2.2.2.2
  have w1 := hts (Cond.fieldLink RX3 9 "SightLegend$MapState" "signKind" "[I") (List.mem_cons_of_mem _ (GL_2 _ (by decide +kernel)))
  have w2 : ∀ w ∈ u_ws RX3 TX3 13, w ∈ WW (.code yX3_takeSigns cX3_takeSigns 2 none) := fun w h => List.mem_cons_of_mem _ (inlX3 w h)
  have w3 : tyc (q1 + 1) (0, 40) := ty_of (d := 1) (t1 := (0, 40)) (by decide +kernel) rfl tq1
  have w4 : tyc (b + 1) (0, 40) := ty_of (d := 1) (t1 := (0, 40)) (by decide +kernel) rfl tb
  have w5 := hts (Cond.methodLink RX3 52 arraycopyName) (List.mem_cons_of_mem _ (GL_20 _ (by decide +kernel)))
  have w6 := hts (Cond.native arraycopyName) (List.mem_cons_of_mem _ (GL_20 _ (by decide +kernel)))
  have w7 := hts (Cond.static arraycopyName) (List.mem_cons_of_mem _ (GL_20 _ (by decide +kernel)))
  have w8 := hts (Cond.initialized "java/lang/System") (List.mem_cons_of_mem _ (GL_20 _ (by decide +kernel)))
  have w9 := hts (Cond.fieldLink RX3 15 "SightLegend$MapState" "signColumn" "[I") (List.mem_cons_of_mem _ (GL_2 _ (by decide +kernel)))
  have w10 : tyc (q1 + 2) (0, 40) := ty_of (d := 2) (t1 := (0, 40)) (by decide +kernel) rfl tq1
  have w11 : tyc (b + 2) (0, 40) := ty_of (d := 2) (t1 := (0, 40)) (by decide +kernel) rfl tb
  have w12 := hts (Cond.fieldLink RX3 18 "SightLegend$MapState" "signRow" "[I") (List.mem_cons_of_mem _ (GL_2 _ (by decide +kernel)))
  have w13 : tyc (q1 + 3) (0, 40) := ty_of (d := 3) (t1 := (0, 40)) (by decide +kernel) rfl tq1
  have w14 : tyc (b + 3) (0, 40) := ty_of (d := 3) (t1 := (0, 40)) (by decide +kernel) rfl tb
  have w15 := hts (Cond.fieldLink RX3 21 "SightLegend$MapState" "signValue" "[I") (List.mem_cons_of_mem _ (GL_2 _ (by decide +kernel)))
  have w16 : tyc (q1 + 4) (0, 40) := ty_of (d := 4) (t1 := (0, 40)) (by decide +kernel) rfl tq1
  have w17 : tyc (b + 4) (0, 40) := ty_of (d := 4) (t1 := (0, 40)) (by decide +kernel) rfl tb
  have w18 := hts (Cond.fieldLink RX3 24 "SightLegend$MapState" "signLevel" "[I") (List.mem_cons_of_mem _ (GL_2 _ (by decide +kernel)))
  have w19 : tyc (q1 + 5) (0, 40) := ty_of (d := 5) (t1 := (0, 40)) (by decide +kernel) rfl tq1
  have w20 : tyc (b + 5) (0, 40) := ty_of (d := 5) (t1 := (0, 40)) (by decide +kernel) rfl tb
  have w21 := hts (Cond.fieldLink RX3 58 "SightLegend$MapState" "signCount" "I") (List.mem_cons_of_mem _ (GL_20 _ (by decide +kernel)))
  unfold f_X3_takeSigns at h
  refine a_sub (ls1 := [(0, Value.ref (ad b)), (1, Value.ref (ad q1))]) [0, 1] rfl ?_
  refine a_aload_n (pc := 0) a 1 dX3_takeSigns_0 rfl rfl ?_
  refine a_getR (pc := 1) a 0 0 rfl tq1 vc3 w2 w1 (by decide) (by decide) 1 (q := (q1 + 1)) rfl rfl dX3_takeSigns_1 ?_
  refine a_iconst (pc := 4) a dX3_takeSigns_4 ?_
  refine a_aload_n (pc := 5) a 0 dX3_takeSigns_5 rfl rfl ?_
  refine a_getR (pc := 6) a 0 0 rfl tb vc3 w2 w1 (by decide) (by decide) 1 (q := (b + 1)) rfl rfl dX3_takeSigns_6 ?_
  refine a_iconst (pc := 9) a dX3_takeSigns_9 ?_
  refine a_bipush (pc := 10) a dX3_takeSigns_10 (by decide) ?_
  refine a_copy (pc := 12) a w3 w4 (by decide) (by decide) (by decide) (by decide) w5 w6 w7 w8 (Nat.le_of_ble_eq_true rfl) (Nat.le_of_ble_eq_true rfl) dX3_takeSigns_12 ?_
  refine a_nmS (fun s1 hx => ?_)
  replace h := h s1 hx
  clear hx
  refine a_aload_n (pc := 15) a 1 dX3_takeSigns_15 rfl rfl ?_
  refine a_getR (pc := 16) a 1 1 rfl tq1 vc3 w2 w9 (by decide) (by decide) 2 (q := (q1 + 2)) rfl rfl dX3_takeSigns_16 ?_
  refine a_iconst (pc := 19) a dX3_takeSigns_19 ?_
  refine a_aload_n (pc := 20) a 0 dX3_takeSigns_20 rfl rfl ?_
  refine a_getR (pc := 21) a 1 1 rfl tb vc3 w2 w9 (by decide) (by decide) 2 (q := (b + 2)) rfl rfl dX3_takeSigns_21 ?_
  refine a_iconst (pc := 24) a dX3_takeSigns_24 ?_
  refine a_bipush (pc := 25) a dX3_takeSigns_25 (by decide) ?_
  refine a_copy (pc := 27) a w10 w11 (by decide) (by decide) (by decide) (by decide) w5 w6 w7 w8 (Nat.le_of_ble_eq_true rfl) (Nat.le_of_ble_eq_true rfl) dX3_takeSigns_27 ?_
  refine a_nmS (fun s2 hx => ?_)
  replace h := h s2 hx
  clear hx
  refine a_aload_n (pc := 30) a 1 dX3_takeSigns_30 rfl rfl ?_
  refine a_getR (pc := 31) a 2 2 rfl tq1 vc3 w2 w12 (by decide) (by decide) 3 (q := (q1 + 3)) rfl rfl dX3_takeSigns_31 ?_
  refine a_iconst (pc := 34) a dX3_takeSigns_34 ?_
  refine a_aload_n (pc := 35) a 0 dX3_takeSigns_35 rfl rfl ?_
  refine a_getR (pc := 36) a 2 2 rfl tb vc3 w2 w12 (by decide) (by decide) 3 (q := (b + 3)) rfl rfl dX3_takeSigns_36 ?_
  refine a_iconst (pc := 39) a dX3_takeSigns_39 ?_
  refine a_bipush (pc := 40) a dX3_takeSigns_40 (by decide) ?_
  refine a_copy (pc := 42) a w13 w14 (by decide) (by decide) (by decide) (by decide) w5 w6 w7 w8 (Nat.le_of_ble_eq_true rfl) (Nat.le_of_ble_eq_true rfl) dX3_takeSigns_42 ?_
  refine a_nmS (fun s3 hx => ?_)
  replace h := h s3 hx
  clear hx
  refine a_aload_n (pc := 45) a 1 dX3_takeSigns_45 rfl rfl ?_
  refine a_getR (pc := 46) a 3 3 rfl tq1 vc3 w2 w15 (by decide) (by decide) 4 (q := (q1 + 4)) rfl rfl dX3_takeSigns_46 ?_
  refine a_iconst (pc := 49) a dX3_takeSigns_49 ?_
  refine a_aload_n (pc := 50) a 0 dX3_takeSigns_50 rfl rfl ?_
  refine a_getR (pc := 51) a 3 3 rfl tb vc3 w2 w15 (by decide) (by decide) 4 (q := (b + 4)) rfl rfl dX3_takeSigns_51 ?_
  refine a_iconst (pc := 54) a dX3_takeSigns_54 ?_
  refine a_bipush (pc := 55) a dX3_takeSigns_55 (by decide) ?_
  refine a_copy (pc := 57) a w16 w17 (by decide) (by decide) (by decide) (by decide) w5 w6 w7 w8 (Nat.le_of_ble_eq_true rfl) (Nat.le_of_ble_eq_true rfl) dX3_takeSigns_57 ?_
  refine a_nmS (fun s4 hx => ?_)
  replace h := h s4 hx
  clear hx
  refine a_aload_n (pc := 60) a 1 dX3_takeSigns_60 rfl rfl ?_
  refine a_getR (pc := 61) a 4 4 rfl tq1 vc3 w2 w18 (by decide) (by decide) 5 (q := (q1 + 5)) rfl rfl dX3_takeSigns_61 ?_
  refine a_iconst (pc := 64) a dX3_takeSigns_64 ?_
  refine a_aload_n (pc := 65) a 0 dX3_takeSigns_65 rfl rfl ?_
  refine a_getR (pc := 66) a 4 4 rfl tb vc3 w2 w18 (by decide) (by decide) 5 (q := (b + 5)) rfl rfl dX3_takeSigns_66 ?_
  refine a_iconst (pc := 69) a dX3_takeSigns_69 ?_
  refine a_bipush (pc := 70) a dX3_takeSigns_70 (by decide) ?_
  refine a_copy (pc := 72) a w19 w20 (by decide) (by decide) (by decide) (by decide) w5 w6 w7 w8 (Nat.le_of_ble_eq_true rfl) (Nat.le_of_ble_eq_true rfl) dX3_takeSigns_72 ?_
  refine a_nmS (fun s5 hx => ?_)
  replace h := h s5 hx
  clear hx
  refine a_aload_n (pc := 75) a 0 dX3_takeSigns_75 rfl rfl ?_
  refine a_aload_n (pc := 76) a 1 dX3_takeSigns_76 rfl rfl ?_
  refine a_getI (pc := 77) a 5 5 rfl tq1 vc3 w2 w21 (by decide) (by decide) rfl dX3_takeSigns_77 ?_
  refine a_putI (pc := 80) a 5 5 rfl tb vc3 w2 w21 (by decide) (by decide) tyX3 tyX3_ok nmX3 rfl rfl (by decide +kernel) dX3_takeSigns_80 ?_
  refine a_nmS (fun s6 hx => ?_)
  replace h := h s6 hx
  clear hx
  exact e_v (pc := 83) a hr dX3_takeSigns_83 h

set_option maxRecDepth 100000 in
set_option maxHeartbeats 4000000 in
theorem c_X3_copyFrom {l : Launch} {D : va_G} {X : XI} {ad : Nat → Nat} (hinj : adI ad) (hl0 : l.stackTraces = false) {b : Nat} {q1 : Nat} (tb : tyc b (7, 0)) (tq1 : tyc q1 (7, 0)) {σ : St} {K : St → Prop} (h : f_X3_copyFrom b q1 σ K) (sz : Nat) : Met l yX3_copyFrom (WW (.code yX3_copyFrom cX3_copyFrom 2 none)) { frames := 2, cells := 0, slots := 0, locals := 45 } (va_Pc [Value.ref (ad b), Value.ref (ad q1)] (WD D X ad σ sz)) (QV D X ad sz K) 0 0 (AA ad sz) := by
  refine a_start (cc := cX3_copyFrom) (maxL := 2) (ret := none) (own := RX3) [Value.ref (ad b), Value.ref (ad q1)] (by decide) rfl rfl (Nat.le_of_ble_eq_true rfl) hinj hl0 ?_
  intro p e s m below meth c a hr hsz
  subst hsz
  have hts := a.1.2.2.2.2
  have w1 := hts (Cond.fieldLink RX3 27 "SightLegend$MapState" "rank" "[I") (List.mem_cons_of_mem _ (GL_2 _ (by decide +kernel)))
  have w2 : ∀ w ∈ u_ws RX3 TX3 13, w ∈ WW (.code yX3_copyFrom cX3_copyFrom 2 none) := fun w h => List.mem_cons_of_mem _ (inlX3 w h)
  have w3 : tyc (q1 + 6) (0, 12) := ty_of (d := 6) (t1 := (0, 12)) (by decide +kernel) rfl tq1
  have w4 : tyc (b + 6) (0, 12) := ty_of (d := 6) (t1 := (0, 12)) (by decide +kernel) rfl tb
  have w5 := hts (Cond.methodLink RX3 52 arraycopyName) (List.mem_cons_of_mem _ (GL_20 _ (by decide +kernel)))
  have w6 := hts (Cond.native arraycopyName) (List.mem_cons_of_mem _ (GL_20 _ (by decide +kernel)))
  have w7 := hts (Cond.static arraycopyName) (List.mem_cons_of_mem _ (GL_20 _ (by decide +kernel)))
  have w8 := hts (Cond.initialized "java/lang/System") (List.mem_cons_of_mem _ (GL_20 _ (by decide +kernel)))
  have w9 := hts (Cond.fieldLink RX3 30 "SightLegend$MapState" "group" "[I") (List.mem_cons_of_mem _ (GL_2 _ (by decide +kernel)))
  have w10 : tyc (q1 + 7) (0, 12) := ty_of (d := 7) (t1 := (0, 12)) (by decide +kernel) rfl tq1
  have w11 : tyc (b + 7) (0, 12) := ty_of (d := 7) (t1 := (0, 12)) (by decide +kernel) rfl tb
  have w12 := hts (Cond.fieldLink RX3 33 "SightLegend$MapState" "limitCount" "[I") (List.mem_cons_of_mem _ (GL_2 _ (by decide +kernel)))
  have w13 : tyc (q1 + 8) (0, 12) := ty_of (d := 8) (t1 := (0, 12)) (by decide +kernel) rfl tq1
  have w14 : tyc (b + 8) (0, 12) := ty_of (d := 8) (t1 := (0, 12)) (by decide +kernel) rfl tb
  have w15 := hts (Cond.fieldLink RX3 36 "SightLegend$MapState" "limits" "[I") (List.mem_cons_of_mem _ (GL_2 _ (by decide +kernel)))
  have w16 : tyc (q1 + 9) (0, 60) := ty_of (d := 9) (t1 := (0, 60)) (by decide +kernel) rfl tq1
  have w17 : tyc (b + 9) (0, 60) := ty_of (d := 9) (t1 := (0, 60)) (by decide +kernel) rfl tb
  have w18 := hts (Cond.fieldLink RX3 39 "SightLegend$MapState" "way" "[I") (List.mem_cons_of_mem _ (GL_2 _ (by decide +kernel)))
  have w19 : tyc (q1 + 10) (0, 5) := ty_of (d := 10) (t1 := (0, 5)) (by decide +kernel) rfl tq1
  have w20 : tyc (b + 10) (0, 5) := ty_of (d := 10) (t1 := (0, 5)) (by decide +kernel) rfl tb
  have w21 := hts (Cond.fieldLink RX3 42 "SightLegend$MapState" "window" "[I") (List.mem_cons_of_mem _ (GL_2 _ (by decide +kernel)))
  have w22 : tyc (q1 + 11) (0, 5) := ty_of (d := 11) (t1 := (0, 5)) (by decide +kernel) rfl tq1
  have w23 : tyc (b + 11) (0, 5) := ty_of (d := 11) (t1 := (0, 5)) (by decide +kernel) rfl tb
  have w24 := hts (Cond.fieldLink RX3 45 "SightLegend$MapState" "settings" "[I") (List.mem_cons_of_mem _ (GL_2 _ (by decide +kernel)))
  have w25 : tyc (q1 + 12) (0, 4) := ty_of (d := 12) (t1 := (0, 4)) (by decide +kernel) rfl tq1
  have w26 : tyc (b + 12) (0, 4) := ty_of (d := 12) (t1 := (0, 4)) (by decide +kernel) rfl tb
  unfold f_X3_copyFrom at h
  refine a_sub (ls1 := [(0, Value.ref (ad b)), (1, Value.ref (ad q1))]) [0, 1] rfl ?_
  refine a_aload_n (pc := 0) a 0 dX3_copyFrom_0 rfl rfl ?_
  refine a_aload_n (pc := 1) a 1 dX3_copyFrom_1 rfl rfl ?_
  refine a_cvv (pc := 2) a (As := [Value.ref (ad q1)]) (rest := []) tb vc3 (fun sz => c_X3_takeSigns hinj hl0 tb tq1 h sz) (cwV 1 hts (gl_V (GL_20 _ (by decide +kernel)) (GL_20 _ (by decide +kernel)) (GL_20 _ (by decide +kernel)) (GL_1 _ (by decide +kernel)) (GL_20 _ (by decide +kernel))) rfl rfl rfl (by decide +kernel) ⟨Nat.le_of_ble_eq_true rfl, Nat.le_of_ble_eq_true rfl⟩) rfl rfl (Nat.le_of_ble_eq_true rfl) ⟨Nat.le_of_ble_eq_true rfl, Nat.le_of_ble_eq_true rfl⟩ dX3_copyFrom_2 ?_
  clear h
  intro s1 h
  refine a_aload_n (pc := 5) a 1 dX3_copyFrom_5 rfl rfl ?_
  refine a_getR (pc := 6) a 6 6 rfl tq1 vc3 w2 w1 (by decide) (by decide) 6 (q := (q1 + 6)) rfl rfl dX3_copyFrom_6 ?_
  refine a_iconst (pc := 9) a dX3_copyFrom_9 ?_
  refine a_aload_n (pc := 10) a 0 dX3_copyFrom_10 rfl rfl ?_
  refine a_getR (pc := 11) a 6 6 rfl tb vc3 w2 w1 (by decide) (by decide) 6 (q := (b + 6)) rfl rfl dX3_copyFrom_11 ?_
  refine a_iconst (pc := 14) a dX3_copyFrom_14 ?_
  refine a_bipush (pc := 15) a dX3_copyFrom_15 (by decide) ?_
  refine a_copy (pc := 17) a w3 w4 (by decide) (by decide) (by decide) (by decide) w5 w6 w7 w8 (Nat.le_of_ble_eq_true rfl) (Nat.le_of_ble_eq_true rfl) dX3_copyFrom_17 ?_
  refine a_nmS (fun s2 hx => ?_)
  replace h := h s2 hx
  clear hx
  refine a_aload_n (pc := 20) a 1 dX3_copyFrom_20 rfl rfl ?_
  refine a_getR (pc := 21) a 7 7 rfl tq1 vc3 w2 w9 (by decide) (by decide) 7 (q := (q1 + 7)) rfl rfl dX3_copyFrom_21 ?_
  refine a_iconst (pc := 24) a dX3_copyFrom_24 ?_
  refine a_aload_n (pc := 25) a 0 dX3_copyFrom_25 rfl rfl ?_
  refine a_getR (pc := 26) a 7 7 rfl tb vc3 w2 w9 (by decide) (by decide) 7 (q := (b + 7)) rfl rfl dX3_copyFrom_26 ?_
  refine a_iconst (pc := 29) a dX3_copyFrom_29 ?_
  refine a_bipush (pc := 30) a dX3_copyFrom_30 (by decide) ?_
  refine a_copy (pc := 32) a w10 w11 (by decide) (by decide) (by decide) (by decide) w5 w6 w7 w8 (Nat.le_of_ble_eq_true rfl) (Nat.le_of_ble_eq_true rfl) dX3_copyFrom_32 ?_
  refine a_nmS (fun s3 hx => ?_)
  replace h := h s3 hx
  clear hx
  refine a_aload_n (pc := 35) a 1 dX3_copyFrom_35 rfl rfl ?_
  refine a_getR (pc := 36) a 8 8 rfl tq1 vc3 w2 w12 (by decide) (by decide) 8 (q := (q1 + 8)) rfl rfl dX3_copyFrom_36 ?_
  refine a_iconst (pc := 39) a dX3_copyFrom_39 ?_
  refine a_aload_n (pc := 40) a 0 dX3_copyFrom_40 rfl rfl ?_
  refine a_getR (pc := 41) a 8 8 rfl tb vc3 w2 w12 (by decide) (by decide) 8 (q := (b + 8)) rfl rfl dX3_copyFrom_41 ?_
  refine a_iconst (pc := 44) a dX3_copyFrom_44 ?_
  refine a_bipush (pc := 45) a dX3_copyFrom_45 (by decide) ?_
  refine a_copy (pc := 47) a w13 w14 (by decide) (by decide) (by decide) (by decide) w5 w6 w7 w8 (Nat.le_of_ble_eq_true rfl) (Nat.le_of_ble_eq_true rfl) dX3_copyFrom_47 ?_
  refine a_nmS (fun s4 hx => ?_)
  replace h := h s4 hx
  clear hx
  refine a_aload_n (pc := 50) a 1 dX3_copyFrom_50 rfl rfl ?_
  refine a_getR (pc := 51) a 9 9 rfl tq1 vc3 w2 w15 (by decide) (by decide) 9 (q := (q1 + 9)) rfl rfl dX3_copyFrom_51 ?_
  refine a_iconst (pc := 54) a dX3_copyFrom_54 ?_
  refine a_aload_n (pc := 55) a 0 dX3_copyFrom_55 rfl rfl ?_
  refine a_getR (pc := 56) a 9 9 rfl tb vc3 w2 w15 (by decide) (by decide) 9 (q := (b + 9)) rfl rfl dX3_copyFrom_56 ?_
  refine a_iconst (pc := 59) a dX3_copyFrom_59 ?_
  refine a_bipush (pc := 60) a dX3_copyFrom_60 (by decide) ?_
  refine a_copy (pc := 62) a w16 w17 (by decide) (by decide) (by decide) (by decide) w5 w6 w7 w8 (Nat.le_of_ble_eq_true rfl) (Nat.le_of_ble_eq_true rfl) dX3_copyFrom_62 ?_
  refine a_nmS (fun s5 hx => ?_)
  replace h := h s5 hx
  clear hx
  refine a_aload_n (pc := 65) a 1 dX3_copyFrom_65 rfl rfl ?_
  refine a_getR (pc := 66) a 10 10 rfl tq1 vc3 w2 w18 (by decide) (by decide) 10 (q := (q1 + 10)) rfl rfl dX3_copyFrom_66 ?_
  refine a_iconst (pc := 69) a dX3_copyFrom_69 ?_
  refine a_aload_n (pc := 70) a 0 dX3_copyFrom_70 rfl rfl ?_
  refine a_getR (pc := 71) a 10 10 rfl tb vc3 w2 w18 (by decide) (by decide) 10 (q := (b + 10)) rfl rfl dX3_copyFrom_71 ?_
  refine a_iconst (pc := 74) a dX3_copyFrom_74 ?_
  refine a_iconst (pc := 75) a dX3_copyFrom_75 ?_
  refine a_copy (pc := 76) a w19 w20 (by decide) (by decide) (by decide) (by decide) w5 w6 w7 w8 (Nat.le_of_ble_eq_true rfl) (Nat.le_of_ble_eq_true rfl) dX3_copyFrom_76 ?_
  refine a_nmS (fun s6 hx => ?_)
  replace h := h s6 hx
  clear hx
  refine a_aload_n (pc := 79) a 1 dX3_copyFrom_79 rfl rfl ?_
  refine a_getR (pc := 80) a 11 11 rfl tq1 vc3 w2 w21 (by decide) (by decide) 11 (q := (q1 + 11)) rfl rfl dX3_copyFrom_80 ?_
  refine a_iconst (pc := 83) a dX3_copyFrom_83 ?_
  refine a_aload_n (pc := 84) a 0 dX3_copyFrom_84 rfl rfl ?_
  refine a_getR (pc := 85) a 11 11 rfl tb vc3 w2 w21 (by decide) (by decide) 11 (q := (b + 11)) rfl rfl dX3_copyFrom_85 ?_
  refine a_iconst (pc := 88) a dX3_copyFrom_88 ?_
  refine a_iconst (pc := 89) a dX3_copyFrom_89 ?_
  refine a_copy (pc := 90) a w22 w23 (by decide) (by decide) (by decide) (by decide) w5 w6 w7 w8 (Nat.le_of_ble_eq_true rfl) (Nat.le_of_ble_eq_true rfl) dX3_copyFrom_90 ?_
  refine a_nmS (fun s7 hx => ?_)
  replace h := h s7 hx
  clear hx
  refine a_aload_n (pc := 93) a 1 dX3_copyFrom_93 rfl rfl ?_
  refine a_getR (pc := 94) a 12 12 rfl tq1 vc3 w2 w24 (by decide) (by decide) 12 (q := (q1 + 12)) rfl rfl dX3_copyFrom_94 ?_
  refine a_iconst (pc := 97) a dX3_copyFrom_97 ?_
  refine a_aload_n (pc := 98) a 0 dX3_copyFrom_98 rfl rfl ?_
  refine a_getR (pc := 99) a 12 12 rfl tb vc3 w2 w24 (by decide) (by decide) 12 (q := (b + 12)) rfl rfl dX3_copyFrom_99 ?_
  refine a_iconst (pc := 102) a dX3_copyFrom_102 ?_
  refine a_iconst (pc := 103) a dX3_copyFrom_103 ?_
  refine a_copy (pc := 104) a w25 w26 (by decide) (by decide) (by decide) (by decide) w5 w6 w7 w8 (Nat.le_of_ble_eq_true rfl) (Nat.le_of_ble_eq_true rfl) dX3_copyFrom_104 ?_
  refine a_nmS (fun s8 hx => ?_)
  replace h := h s8 hx
  clear hx
  exact e_v (pc := 107) a hr dX3_copyFrom_107 h

set_option maxRecDepth 100000 in
set_option maxHeartbeats 4000000 in
theorem c_X3_putSign {l : Launch} {D : va_G} {X : XI} {ad : Nat → Nat} (hinj : adI ad) (hl0 : l.stackTraces = false) {b : Nat} {p1 : Int} {p2 : Int} {p3 : Int} {p4 : Int} {p5 : Int} (tb : tyc b (7, 0)) {σ : St} {K : St → Prop} (h : f_X3_putSign b p1 p2 p3 p4 p5 σ K) (sz : Nat) : Met l yX3_putSign (WW (.code yX3_putSign cX3_putSign 6 none)) { frames := 0, cells := 0, slots := 0, locals := 0 } (va_Pc [Value.ref (ad b), vI p1, vI p2, vI p3, vI p4, vI p5] (WD D X ad σ sz)) (QV D X ad sz K) 0 0 (AA ad sz) := by
  refine a_start (cc := cX3_putSign) (maxL := 6) (ret := none) (own := RX3) [Value.ref (ad b), vI p1, vI p2, vI p3, vI p4, vI p5] (by decide) rfl rfl (Nat.le_of_ble_eq_true rfl) hinj hl0 ?_
  intro p e s m below meth c a hr hsz
  subst hsz
  have hts := a.1.2.2.2.2
  have w1 := hts (Cond.fieldLink RX3 58 "SightLegend$MapState" "signCount" "I") (List.mem_cons_of_mem _ (GL_20 _ (by decide +kernel)))
  have w2 : ∀ w ∈ u_ws RX3 TX3 13, w ∈ WW (.code yX3_putSign cX3_putSign 6 none) := fun w h => List.mem_cons_of_mem _ (inlX3 w h)
  have w3 := hts (Cond.fieldLink RX3 9 "SightLegend$MapState" "signKind" "[I") (List.mem_cons_of_mem _ (GL_2 _ (by decide +kernel)))
  have w4 : tyc (b + 1) (0, 40) := ty_of (d := 1) (t1 := (0, 40)) (by decide +kernel) rfl tb
  have w5 := hts (Cond.fieldLink RX3 15 "SightLegend$MapState" "signColumn" "[I") (List.mem_cons_of_mem _ (GL_2 _ (by decide +kernel)))
  have w6 : tyc (b + 2) (0, 40) := ty_of (d := 2) (t1 := (0, 40)) (by decide +kernel) rfl tb
  have w7 := hts (Cond.fieldLink RX3 18 "SightLegend$MapState" "signRow" "[I") (List.mem_cons_of_mem _ (GL_2 _ (by decide +kernel)))
  have w8 : tyc (b + 3) (0, 40) := ty_of (d := 3) (t1 := (0, 40)) (by decide +kernel) rfl tb
  have w9 := hts (Cond.fieldLink RX3 21 "SightLegend$MapState" "signValue" "[I") (List.mem_cons_of_mem _ (GL_2 _ (by decide +kernel)))
  have w10 : tyc (b + 4) (0, 40) := ty_of (d := 4) (t1 := (0, 40)) (by decide +kernel) rfl tb
  have w11 := hts (Cond.fieldLink RX3 24 "SightLegend$MapState" "signLevel" "[I") (List.mem_cons_of_mem _ (GL_2 _ (by decide +kernel)))
  have w12 : tyc (b + 5) (0, 40) := ty_of (d := 5) (t1 := (0, 40)) (by decide +kernel) rfl tb
  unfold f_X3_putSign at h
  refine a_sub (ls1 := [(0, Value.ref (ad b)), (1, vI p1), (2, vI p2), (3, vI p3), (4, vI p4), (5, vI p5)]) [0, 1, 2, 3, 4, 5] rfl ?_
  refine a_aload_n (pc := 0) a 0 dX3_putSign_0 rfl rfl ?_
  refine a_getI (pc := 1) a 5 5 rfl tb vc3 w2 w1 (by decide) (by decide) rfl dX3_putSign_1 ?_
  refine a_if_lt (pc := 4) a h.1 dX3_putSign_4 (tgt := 16) (by decide) (fun hq => ?_) (fun hq => ?_)
  · replace h := h.2.1 hq
    clear hq
    exact e_v (pc := 16) a hr dX3_putSign_16 h
  · replace h := h.2.2 hq
    clear hq
    refine a_aload_n (pc := 7) a 0 dX3_putSign_7 rfl rfl ?_
    refine a_getI (pc := 8) a 5 5 rfl tb vc3 w2 w1 (by decide) (by decide) rfl dX3_putSign_8 ?_
    refine a_bipush (pc := 11) a dX3_putSign_11 (by decide) ?_
    refine a_icmp_lt (pc := 13) a h.1 ⟨by decide, by decide⟩ dX3_putSign_13 (tgt := 17) (by decide) (fun hq => ?_) (fun hq => ?_)
    · replace h := h.2.1 hq
      clear hq
      refine a_aload_n (pc := 17) a 0 dX3_putSign_17 rfl rfl ?_
      refine a_getR (pc := 18) a 0 0 rfl tb vc3 w2 w3 (by decide) (by decide) 1 (q := (b + 1)) rfl rfl dX3_putSign_18 ?_
      refine a_aload_n (pc := 21) a 0 dX3_putSign_21 rfl rfl ?_
      refine a_getI (pc := 22) a 5 5 rfl tb vc3 w2 w1 (by decide) (by decide) rfl dX3_putSign_22 ?_
      refine a_iload_n (pc := 25) a 1 dX3_putSign_25 rfl rfl ?_
      refine a_iast (pc := 26) a (tw hinj w4) (by decide) h.1 dX3_putSign_26 ?_
      replace h := h.2
      refine a_nmS (fun s1 hx => ?_)
      replace h := h s1 hx
      clear hx
      refine a_aload_n (pc := 27) a 0 dX3_putSign_27 rfl rfl ?_
      refine a_getR (pc := 28) a 1 1 rfl tb vc3 w2 w5 (by decide) (by decide) 2 (q := (b + 2)) rfl rfl dX3_putSign_28 ?_
      refine a_aload_n (pc := 31) a 0 dX3_putSign_31 rfl rfl ?_
      refine a_getI (pc := 32) a 5 5 rfl tb vc3 w2 w1 (by decide) (by decide) rfl dX3_putSign_32 ?_
      refine a_iload_n (pc := 35) a 2 dX3_putSign_35 rfl rfl ?_
      refine a_iast (pc := 36) a (tw hinj w6) (by decide) h.1 dX3_putSign_36 ?_
      replace h := h.2
      refine a_nmS (fun s2 hx => ?_)
      replace h := h s2 hx
      clear hx
      refine a_aload_n (pc := 37) a 0 dX3_putSign_37 rfl rfl ?_
      refine a_getR (pc := 38) a 2 2 rfl tb vc3 w2 w7 (by decide) (by decide) 3 (q := (b + 3)) rfl rfl dX3_putSign_38 ?_
      refine a_aload_n (pc := 41) a 0 dX3_putSign_41 rfl rfl ?_
      refine a_getI (pc := 42) a 5 5 rfl tb vc3 w2 w1 (by decide) (by decide) rfl dX3_putSign_42 ?_
      refine a_iload_n (pc := 45) a 3 dX3_putSign_45 rfl rfl ?_
      refine a_iast (pc := 46) a (tw hinj w8) (by decide) h.1 dX3_putSign_46 ?_
      replace h := h.2
      refine a_nmS (fun s3 hx => ?_)
      replace h := h s3 hx
      clear hx
      refine a_aload_n (pc := 47) a 0 dX3_putSign_47 rfl rfl ?_
      refine a_getR (pc := 48) a 3 3 rfl tb vc3 w2 w9 (by decide) (by decide) 4 (q := (b + 4)) rfl rfl dX3_putSign_48 ?_
      refine a_aload_n (pc := 51) a 0 dX3_putSign_51 rfl rfl ?_
      refine a_getI (pc := 52) a 5 5 rfl tb vc3 w2 w1 (by decide) (by decide) rfl dX3_putSign_52 ?_
      refine a_iload (pc := 55) a 4 dX3_putSign_55 rfl ?_
      refine a_iast (pc := 57) a (tw hinj w10) (by decide) h.1 dX3_putSign_57 ?_
      replace h := h.2
      refine a_nmS (fun s4 hx => ?_)
      replace h := h s4 hx
      clear hx
      refine a_aload_n (pc := 58) a 0 dX3_putSign_58 rfl rfl ?_
      refine a_getR (pc := 59) a 4 4 rfl tb vc3 w2 w11 (by decide) (by decide) 5 (q := (b + 5)) rfl rfl dX3_putSign_59 ?_
      refine a_aload_n (pc := 62) a 0 dX3_putSign_62 rfl rfl ?_
      refine a_getI (pc := 63) a 5 5 rfl tb vc3 w2 w1 (by decide) (by decide) rfl dX3_putSign_63 ?_
      refine a_iload (pc := 66) a 5 dX3_putSign_66 rfl ?_
      refine a_iast (pc := 68) a (tw hinj w12) (by decide) h.1 dX3_putSign_68 ?_
      replace h := h.2
      refine a_nmS (fun s5 hx => ?_)
      replace h := h s5 hx
      clear hx
      refine a_aload_n (pc := 69) a 0 dX3_putSign_69 rfl rfl ?_
      refine a_dup (pc := 70) a rfl dX3_putSign_70 ?_
      refine a_getI (pc := 71) a 5 5 rfl tb vc3 w2 w1 (by decide) (by decide) rfl dX3_putSign_71 ?_
      refine a_iconst (pc := 74) a dX3_putSign_74 ?_
      refine a_iadd (pc := 75) a dX3_putSign_75 ?_
      refine a_putI (pc := 76) a 5 5 rfl tb vc3 w2 w1 (by decide) (by decide) tyX3 tyX3_ok nmX3 rfl rfl (by decide +kernel) dX3_putSign_76 ?_
      refine a_nmS (fun s6 hx => ?_)
      replace h := h s6 hx
      clear hx
      exact e_v (pc := 79) a hr dX3_putSign_79 h
    · replace h := h.2.2 hq
      clear hq
      exact e_v (pc := 16) a hr dX3_putSign_16 h

set_option maxRecDepth 100000 in
set_option maxHeartbeats 4000000 in
theorem c_X3_dropSign {l : Launch} {D : va_G} {X : XI} {ad : Nat → Nat} (hinj : adI ad) (hl0 : l.stackTraces = false) {b : Nat} {p1 : Int} (tb : tyc b (7, 0)) {σ : St} {K : St → Prop} (h : f_X3_dropSign b p1 σ K) (sz : Nat) : Met l yX3_dropSign (WW (.code yX3_dropSign cX3_dropSign 3 none)) { frames := 0, cells := 0, slots := 0, locals := 0 } (va_Pc [Value.ref (ad b), vI p1] (WD D X ad σ sz)) (QV D X ad sz K) 0 0 (AA ad sz) := by
  refine a_start (cc := cX3_dropSign) (maxL := 3) (ret := none) (own := RX3) [Value.ref (ad b), vI p1] (by decide) rfl rfl (Nat.le_of_ble_eq_true rfl) hinj hl0 ?_
  intro p e s m below meth c a hr hsz
  subst hsz
  have hts := a.1.2.2.2.2
  have w1 := hts (Cond.fieldLink RX3 58 "SightLegend$MapState" "signCount" "I") (List.mem_cons_of_mem _ (GL_20 _ (by decide +kernel)))
  have w2 : ∀ w ∈ u_ws RX3 TX3 13, w ∈ WW (.code yX3_dropSign cX3_dropSign 3 none) := fun w h => List.mem_cons_of_mem _ (inlX3 w h)
  have w3 := hts (Cond.fieldLink RX3 9 "SightLegend$MapState" "signKind" "[I") (List.mem_cons_of_mem _ (GL_2 _ (by decide +kernel)))
  have w4 : tyc (b + 1) (0, 40) := ty_of (d := 1) (t1 := (0, 40)) (by decide +kernel) rfl tb
  have w5 := hts (Cond.fieldLink RX3 15 "SightLegend$MapState" "signColumn" "[I") (List.mem_cons_of_mem _ (GL_2 _ (by decide +kernel)))
  have w6 : tyc (b + 2) (0, 40) := ty_of (d := 2) (t1 := (0, 40)) (by decide +kernel) rfl tb
  have w7 := hts (Cond.fieldLink RX3 18 "SightLegend$MapState" "signRow" "[I") (List.mem_cons_of_mem _ (GL_2 _ (by decide +kernel)))
  have w8 : tyc (b + 3) (0, 40) := ty_of (d := 3) (t1 := (0, 40)) (by decide +kernel) rfl tb
  have w9 := hts (Cond.fieldLink RX3 21 "SightLegend$MapState" "signValue" "[I") (List.mem_cons_of_mem _ (GL_2 _ (by decide +kernel)))
  have w10 : tyc (b + 4) (0, 40) := ty_of (d := 4) (t1 := (0, 40)) (by decide +kernel) rfl tb
  have w11 := hts (Cond.fieldLink RX3 24 "SightLegend$MapState" "signLevel" "[I") (List.mem_cons_of_mem _ (GL_2 _ (by decide +kernel)))
  have w12 : tyc (b + 5) (0, 40) := ty_of (d := 5) (t1 := (0, 40)) (by decide +kernel) rfl tb
  unfold f_X3_dropSign at h
  refine a_sub (ls1 := [(0, Value.ref (ad b)), (1, vI p1)]) [0, 1] rfl ?_
  refine a_iload_n (pc := 0) a 1 dX3_dropSign_0 rfl rfl ?_
  refine a_if_lt (pc := 1) a h.1 dX3_dropSign_1 (tgt := 12) (by decide) (fun hq => ?_) (fun hq => ?_)
  · replace h := h.2.1 hq
    clear hq
    exact e_v (pc := 12) a hr dX3_dropSign_12 h
  · replace h := h.2.2 hq
    clear hq
    refine a_iload_n (pc := 4) a 1 dX3_dropSign_4 rfl rfl ?_
    refine a_aload_n (pc := 5) a 0 dX3_dropSign_5 rfl rfl ?_
    refine a_getI (pc := 6) a 5 5 rfl tb vc3 w2 w1 (by decide) (by decide) rfl dX3_dropSign_6 ?_
    refine a_icmp_lt (pc := 9) a h.1 h.2.1 dX3_dropSign_9 (tgt := 13) (by decide) (fun hq => ?_) (fun hq => ?_)
    · replace h := h.2.2.1 hq
      clear hq
      refine a_iload_n (pc := 13) a 1 dX3_dropSign_13 rfl rfl ?_
      refine a_istore_n (pc := 14) a (ls1 := [(2, vI p1), (0, Value.ref (ad b)), (1, vI p1)]) dX3_dropSign_14 rfl (by decide) rfl ?_
      refine a_sub (ls1 := [(0, Value.ref (ad b)), (2, vI p1)]) [1, 0] rfl ?_
      refine g_wl1s (fun x1 => [(0, Value.ref (ad b)), (2, vI x1)]) h ?_
      clear h
      intro x1 s2 ag15 hag15 h
      refine a_iload_n (pc := 15) a 1 dX3_dropSign_15 rfl rfl ?_
      refine a_iconst (pc := 16) a dX3_dropSign_16 ?_
      refine a_iadd (pc := 17) a dX3_dropSign_17 ?_
      refine a_aload_n (pc := 18) a 0 dX3_dropSign_18 rfl rfl ?_
      refine a_getI (pc := 19) a 5 5 rfl tb vc3 w2 w1 (by decide) (by decide) rfl dX3_dropSign_19 ?_
      refine a_icmp_ge (pc := 22) a h.1 h.2.1 dX3_dropSign_22 (tgt := 101) (by decide) (fun hq => ?_) (fun hq => ?_)
      · replace h := h.2.2.1 hq
        clear hq
        refine a_aload_n (pc := 101) a 0 dX3_dropSign_101 rfl rfl ?_
        refine a_dup (pc := 102) a rfl dX3_dropSign_102 ?_
        refine a_getI (pc := 103) a 5 5 rfl tb vc3 w2 w1 (by decide) (by decide) rfl dX3_dropSign_103 ?_
        refine a_iconst (pc := 106) a dX3_dropSign_106 ?_
        refine a_isub (pc := 107) a dX3_dropSign_107 ?_
        refine a_putI (pc := 108) a 5 5 rfl tb vc3 w2 w1 (by decide) (by decide) tyX3 tyX3_ok nmX3 rfl rfl (by decide +kernel) dX3_dropSign_108 ?_
        refine a_nmS (fun s3 hx => ?_)
        replace h := h s3 hx
        clear hx
        exact e_v (pc := 111) a hr dX3_dropSign_111 h
      · replace h := h.2.2.2 hq
        clear hq
        refine a_aload_n (pc := 25) a 0 dX3_dropSign_25 rfl rfl ?_
        refine a_getR (pc := 26) a 0 0 rfl tb vc3 w2 w3 (by decide) (by decide) 1 (q := (b + 1)) rfl rfl dX3_dropSign_26 ?_
        refine a_iload_n (pc := 29) a 1 dX3_dropSign_29 rfl rfl ?_
        refine a_aload_n (pc := 30) a 0 dX3_dropSign_30 rfl rfl ?_
        refine a_getR (pc := 31) a 0 0 rfl tb vc3 w2 w3 (by decide) (by decide) 1 (q := (b + 1)) rfl rfl dX3_dropSign_31 ?_
        refine a_iload_n (pc := 34) a 1 dX3_dropSign_34 rfl rfl ?_
        refine a_iconst (pc := 35) a dX3_dropSign_35 ?_
        refine a_iadd (pc := 36) a dX3_dropSign_36 ?_
        refine a_iald (pc := 37) a (tw hinj w4) (by decide) h.1 dX3_dropSign_37 ?_
        replace h := h.2
        refine a_iast (pc := 38) a (tw hinj w4) (by decide) h.1 dX3_dropSign_38 ?_
        replace h := h.2
        refine a_nmS (fun s4 hx => ?_)
        replace h := h s4 hx
        clear hx
        refine a_aload_n (pc := 39) a 0 dX3_dropSign_39 rfl rfl ?_
        refine a_getR (pc := 40) a 1 1 rfl tb vc3 w2 w5 (by decide) (by decide) 2 (q := (b + 2)) rfl rfl dX3_dropSign_40 ?_
        refine a_iload_n (pc := 43) a 1 dX3_dropSign_43 rfl rfl ?_
        refine a_aload_n (pc := 44) a 0 dX3_dropSign_44 rfl rfl ?_
        refine a_getR (pc := 45) a 1 1 rfl tb vc3 w2 w5 (by decide) (by decide) 2 (q := (b + 2)) rfl rfl dX3_dropSign_45 ?_
        refine a_iload_n (pc := 48) a 1 dX3_dropSign_48 rfl rfl ?_
        refine a_iconst (pc := 49) a dX3_dropSign_49 ?_
        refine a_iadd (pc := 50) a dX3_dropSign_50 ?_
        refine a_iald (pc := 51) a (tw hinj w6) (by decide) h.1 dX3_dropSign_51 ?_
        replace h := h.2
        refine a_iast (pc := 52) a (tw hinj w6) (by decide) h.1 dX3_dropSign_52 ?_
        replace h := h.2
        refine a_nmS (fun s5 hx => ?_)
        replace h := h s5 hx
        clear hx
        refine a_aload_n (pc := 53) a 0 dX3_dropSign_53 rfl rfl ?_
        refine a_getR (pc := 54) a 2 2 rfl tb vc3 w2 w7 (by decide) (by decide) 3 (q := (b + 3)) rfl rfl dX3_dropSign_54 ?_
        refine a_iload_n (pc := 57) a 1 dX3_dropSign_57 rfl rfl ?_
        refine a_aload_n (pc := 58) a 0 dX3_dropSign_58 rfl rfl ?_
        refine a_getR (pc := 59) a 2 2 rfl tb vc3 w2 w7 (by decide) (by decide) 3 (q := (b + 3)) rfl rfl dX3_dropSign_59 ?_
        refine a_iload_n (pc := 62) a 1 dX3_dropSign_62 rfl rfl ?_
        refine a_iconst (pc := 63) a dX3_dropSign_63 ?_
        refine a_iadd (pc := 64) a dX3_dropSign_64 ?_
        refine a_iald (pc := 65) a (tw hinj w8) (by decide) h.1 dX3_dropSign_65 ?_
        replace h := h.2
        refine a_iast (pc := 66) a (tw hinj w8) (by decide) h.1 dX3_dropSign_66 ?_
        replace h := h.2
        refine a_nmS (fun s6 hx => ?_)
        replace h := h s6 hx
        clear hx
        refine a_aload_n (pc := 67) a 0 dX3_dropSign_67 rfl rfl ?_
        refine a_getR (pc := 68) a 3 3 rfl tb vc3 w2 w9 (by decide) (by decide) 4 (q := (b + 4)) rfl rfl dX3_dropSign_68 ?_
        refine a_iload_n (pc := 71) a 1 dX3_dropSign_71 rfl rfl ?_
        refine a_aload_n (pc := 72) a 0 dX3_dropSign_72 rfl rfl ?_
        refine a_getR (pc := 73) a 3 3 rfl tb vc3 w2 w9 (by decide) (by decide) 4 (q := (b + 4)) rfl rfl dX3_dropSign_73 ?_
        refine a_iload_n (pc := 76) a 1 dX3_dropSign_76 rfl rfl ?_
        refine a_iconst (pc := 77) a dX3_dropSign_77 ?_
        refine a_iadd (pc := 78) a dX3_dropSign_78 ?_
        refine a_iald (pc := 79) a (tw hinj w10) (by decide) h.1 dX3_dropSign_79 ?_
        replace h := h.2
        refine a_iast (pc := 80) a (tw hinj w10) (by decide) h.1 dX3_dropSign_80 ?_
        replace h := h.2
        refine a_nmS (fun s7 hx => ?_)
        replace h := h s7 hx
        clear hx
        refine a_aload_n (pc := 81) a 0 dX3_dropSign_81 rfl rfl ?_
        refine a_getR (pc := 82) a 4 4 rfl tb vc3 w2 w11 (by decide) (by decide) 5 (q := (b + 5)) rfl rfl dX3_dropSign_82 ?_
        refine a_iload_n (pc := 85) a 1 dX3_dropSign_85 rfl rfl ?_
        refine a_aload_n (pc := 86) a 0 dX3_dropSign_86 rfl rfl ?_
        refine a_getR (pc := 87) a 4 4 rfl tb vc3 w2 w11 (by decide) (by decide) 5 (q := (b + 5)) rfl rfl dX3_dropSign_87 ?_
        refine a_iload_n (pc := 90) a 1 dX3_dropSign_90 rfl rfl ?_
        refine a_iconst (pc := 91) a dX3_dropSign_91 ?_
        refine a_iadd (pc := 92) a dX3_dropSign_92 ?_
        refine a_iald (pc := 93) a (tw hinj w12) (by decide) h.1 dX3_dropSign_93 ?_
        replace h := h.2
        refine a_iast (pc := 94) a (tw hinj w12) (by decide) h.1 dX3_dropSign_94 ?_
        replace h := h.2
        refine a_nmS (fun s8 hx => ?_)
        replace h := h s8 hx
        clear hx
        refine a_iinc (pc := 95) a (ls1 := [(2, vI (x1 + 1)), (0, Value.ref (ad b))]) 1 dX3_dropSign_95 rfl (by decide) rfl ?_
        refine a_goto (pc := 98) a dX3_dropSign_98 (tgt := 15) (by decide) ?_
        refine a_sub (ls1 := [(0, Value.ref (ad b)), (2, vI (x1 + 1))]) [1, 0] rfl ?_
        exact hag15 (x1 + 1) s8 h
    · replace h := h.2.2.2 hq
      clear hq
      exact e_v (pc := 12) a hr dX3_dropSign_12 h

set_option maxRecDepth 100000 in
set_option maxHeartbeats 4000000 in
theorem c_X3_countShown {l : Launch} {D : va_G} {X : XI} {ad : Nat → Nat} (hinj : adI ad) (hl0 : l.stackTraces = false) {b : Nat} (tb : tyc b (7, 0)) {σ : St} {K : Int → Prop} (h : f_X3_countShown b σ K) (sz : Nat) : Met l yX3_countShown (WW (.code yX3_countShown cX3_countShown 3 (some .int))) { frames := 2, cells := 0, slots := 0, locals := 44 } (va_Pc [Value.ref (ad b)] (WD D X ad σ sz)) (QI D X ad sz (fun r τ => τ = σ ∧ K r)) 0 0 (AA ad sz) := by
  refine a_start (cc := cX3_countShown) (maxL := 3) (ret := (some .int)) (own := RX3) [Value.ref (ad b)] (by decide) rfl rfl (Nat.le_of_ble_eq_true rfl) hinj hl0 ?_
  intro p e s m below meth c a hr hsz
  subst hsz
  have hts := a.1.2.2.2.2
  have w1 := hts (Cond.fieldLink RX3 58 "SightLegend$MapState" "signCount" "I") (List.mem_cons_of_mem _ (GL_20 _ (by decide +kernel)))
  have w2 : ∀ w ∈ u_ws RX3 TX3 13, w ∈ WW (.code yX3_countShown cX3_countShown 3 (some .int)) := fun w h => List.mem_cons_of_mem _ (inlX3 w h)
  unfold f_X3_countShown at h
  refine a_sub (ls1 := [(0, Value.ref (ad b))]) [0] rfl ?_
  refine a_iconst (pc := 0) a dX3_countShown_0 ?_
  refine a_istore_n (pc := 1) a (ls1 := [(1, vI 0), (0, Value.ref (ad b))]) dX3_countShown_1 rfl (by decide) rfl ?_
  refine a_iconst (pc := 2) a dX3_countShown_2 ?_
  refine a_istore_n (pc := 3) a (ls1 := [(2, vI 0), (1, vI 0), (0, Value.ref (ad b))]) dX3_countShown_3 rfl (by decide) rfl ?_
  refine a_sub (ls1 := [(0, Value.ref (ad b)), (1, vI 0), (2, vI 0)]) [2, 1, 0] rfl ?_
  refine g_wl2 (fun x1 x2 => [(0, Value.ref (ad b)), (1, vI x1), (2, vI x2)]) h ?_
  clear h
  intro x1 x2 ag4 hag4 h
  refine a_iload_n (pc := 4) a 2 dX3_countShown_4 rfl rfl ?_
  refine a_aload_n (pc := 5) a 0 dX3_countShown_5 rfl rfl ?_
  refine a_getI (pc := 6) a 5 5 rfl tb vc3 w2 w1 (by decide) (by decide) rfl dX3_countShown_6 ?_
  refine a_icmp_ge (pc := 9) a h.1 h.2.1 dX3_countShown_9 (tgt := 29) (by decide) (fun hq => ?_) (fun hq => ?_)
  · replace h := h.2.2.1 hq
    clear hq
    refine a_iload_n (pc := 29) a 1 dX3_countShown_29 rfl rfl ?_
    exact e_i (pc := 30) a hr dX3_countShown_30 ⟨rfl, h⟩
  · replace h := h.2.2.2 hq
    clear hq
    refine a_aload_n (pc := 12) a 0 dX3_countShown_12 rfl rfl ?_
    refine a_iload_n (pc := 13) a 2 dX3_countShown_13 rfl rfl ?_
    refine a_cvi (pc := 14) a (As := [vI x2]) (rest := []) tb vc3 (fun sz => c_X3_isShown hinj hl0 tb h sz) (cwV 1 hts (gl_V (GL_21 _ (by decide +kernel)) (GL_7 _ (by decide +kernel)) (GL_7 _ (by decide +kernel)) (GL_1 _ (by decide +kernel)) (GL_8 _ (by decide +kernel))) rfl rfl rfl (by decide +kernel) ⟨Nat.le_of_ble_eq_true rfl, Nat.le_of_ble_eq_true rfl⟩) rfl rfl (Nat.le_of_ble_eq_true rfl) ⟨Nat.le_of_ble_eq_true rfl, Nat.le_of_ble_eq_true rfl⟩ dX3_countShown_14 ?_
    rintro x3 s9 ⟨hs9, h9⟩
    subst s9
    replace h := h9
    clear h9
    refine a_if_eq (pc := 17) a h.1 dX3_countShown_17 (tgt := 23) (by decide) (fun hq => ?_) (fun hq => ?_)
    · replace h := h.2.1 hq
      clear hq
      refine a_iinc (pc := 23) a (ls1 := [(2, vI (x2 + 1)), (0, Value.ref (ad b)), (1, vI x1)]) 2 dX3_countShown_23 rfl (by decide) rfl ?_
      refine a_goto (pc := 26) a dX3_countShown_26 (tgt := 4) (by decide) ?_
      refine a_sub (ls1 := [(0, Value.ref (ad b)), (1, vI x1), (2, vI (x2 + 1))]) [1, 2, 0] rfl ?_
      exact hag4 x1 (x2 + 1) h
    · replace h := h.2.2 hq
      clear hq
      refine a_iinc (pc := 20) a (ls1 := [(1, vI (x1 + 1)), (0, Value.ref (ad b)), (2, vI x2)]) 1 dX3_countShown_20 rfl (by decide) rfl ?_
      refine a_iinc (pc := 23) a (ls1 := [(2, vI (x2 + 1)), (1, vI (x1 + 1)), (0, Value.ref (ad b))]) 2 dX3_countShown_23 rfl (by decide) rfl ?_
      refine a_goto (pc := 26) a dX3_countShown_26 (tgt := 4) (by decide) ?_
      refine a_sub (ls1 := [(0, Value.ref (ad b)), (1, vI (x1 + 1)), (2, vI (x2 + 1))]) [2, 1, 0] rfl ?_
      exact hag4 (x1 + 1) (x2 + 1) h

set_option maxRecDepth 100000 in
set_option maxHeartbeats 4000000 in
theorem c_X3_limitAt {l : Launch} {D : va_G} {X : XI} {ad : Nat → Nat} (hinj : adI ad) (hl0 : l.stackTraces = false) {b : Nat} {p1 : Int} {p2 : Int} (tb : tyc b (7, 0)) {σ : St} {K : Int → Prop} (h : f_X3_limitAt b p1 p2 σ K) (sz : Nat) : Met l yX3_limitAt (WW (.code yX3_limitAt cX3_limitAt 3 (some .int))) { frames := 0, cells := 0, slots := 0, locals := 0 } (va_Pc [Value.ref (ad b), vI p1, vI p2] (WD D X ad σ sz)) (QI D X ad sz (fun r τ => τ = σ ∧ K r)) 0 0 (AA ad sz) := by
  refine a_start (cc := cX3_limitAt) (maxL := 3) (ret := (some .int)) (own := RX3) [Value.ref (ad b), vI p1, vI p2] (by decide) rfl rfl (Nat.le_of_ble_eq_true rfl) hinj hl0 ?_
  intro p e s m below meth c a hr hsz
  subst hsz
  have hts := a.1.2.2.2.2
  have w1 := hts (Cond.fieldLink RX3 33 "SightLegend$MapState" "limitCount" "[I") (List.mem_cons_of_mem _ (GL_2 _ (by decide +kernel)))
  have w2 : ∀ w ∈ u_ws RX3 TX3 13, w ∈ WW (.code yX3_limitAt cX3_limitAt 3 (some .int)) := fun w h => List.mem_cons_of_mem _ (inlX3 w h)
  have w3 : tyc (b + 8) (0, 12) := ty_of (d := 8) (t1 := (0, 12)) (by decide +kernel) rfl tb
  have w4 := hts (Cond.fieldLink RX3 36 "SightLegend$MapState" "limits" "[I") (List.mem_cons_of_mem _ (GL_2 _ (by decide +kernel)))
  have w5 : tyc (b + 9) (0, 60) := ty_of (d := 9) (t1 := (0, 60)) (by decide +kernel) rfl tb
  unfold f_X3_limitAt at h
  refine a_sub (ls1 := [(0, Value.ref (ad b)), (1, vI p1), (2, vI p2)]) [0, 1, 2] rfl ?_
  refine a_iload_n (pc := 0) a 2 dX3_limitAt_0 rfl rfl ?_
  refine a_if_lt (pc := 1) a h.1 dX3_limitAt_1 (tgt := 27) (by decide) (fun hq => ?_) (fun hq => ?_)
  · replace h := h.2.1 hq
    clear hq
    refine a_iconst (pc := 27) a dX3_limitAt_27 ?_
    exact e_i (pc := 28) a hr dX3_limitAt_28 ⟨rfl, h⟩
  · replace h := h.2.2 hq
    clear hq
    refine a_iload_n (pc := 4) a 2 dX3_limitAt_4 rfl rfl ?_
    refine a_aload_n (pc := 5) a 0 dX3_limitAt_5 rfl rfl ?_
    refine a_getR (pc := 6) a 8 8 rfl tb vc3 w2 w1 (by decide) (by decide) 8 (q := (b + 8)) rfl rfl dX3_limitAt_6 ?_
    refine a_iload_n (pc := 9) a 1 dX3_limitAt_9 rfl rfl ?_
    refine a_iald (pc := 10) a (tw hinj w3) (by decide) h.1 dX3_limitAt_10 ?_
    replace h := h.2
    refine a_icmp_ge (pc := 11) a h.1 h.2.1 dX3_limitAt_11 (tgt := 27) (by decide) (fun hq => ?_) (fun hq => ?_)
    · replace h := h.2.2.1 hq
      clear hq
      refine a_iconst (pc := 27) a dX3_limitAt_27 ?_
      exact e_i (pc := 28) a hr dX3_limitAt_28 ⟨rfl, h⟩
    · replace h := h.2.2.2 hq
      clear hq
      refine a_aload_n (pc := 14) a 0 dX3_limitAt_14 rfl rfl ?_
      refine a_getR (pc := 15) a 9 9 rfl tb vc3 w2 w4 (by decide) (by decide) 9 (q := (b + 9)) rfl rfl dX3_limitAt_15 ?_
      refine a_iload_n (pc := 18) a 1 dX3_limitAt_18 rfl rfl ?_
      refine a_iconst (pc := 19) a dX3_limitAt_19 ?_
      refine a_imul (pc := 20) a dX3_limitAt_20 ?_
      refine a_iload_n (pc := 21) a 2 dX3_limitAt_21 rfl rfl ?_
      refine a_iadd (pc := 22) a dX3_limitAt_22 ?_
      refine a_iald (pc := 23) a (tw hinj w5) (by decide) h.1 dX3_limitAt_23 ?_
      replace h := h.2
      refine a_goto (pc := 24) a dX3_limitAt_24 (tgt := 28) (by decide) ?_
      exact e_i (pc := 28) a hr dX3_limitAt_28 ⟨rfl, h⟩

set_option maxRecDepth 100000 in
set_option maxHeartbeats 4000000 in
theorem c_X3_hasLimit {l : Launch} {D : va_G} {X : XI} {ad : Nat → Nat} (hinj : adI ad) (hl0 : l.stackTraces = false) {b : Nat} {p1 : Int} {p2 : Int} (tb : tyc b (7, 0)) {σ : St} {K : Int → Prop} (h : f_X3_hasLimit b p1 p2 σ K) (sz : Nat) : Met l yX3_hasLimit (WW (.code yX3_hasLimit cX3_hasLimit 4 (some .boolean))) { frames := 0, cells := 0, slots := 0, locals := 0 } (va_Pc [Value.ref (ad b), vI p1, vI p2] (WD D X ad σ sz)) (QI D X ad sz (fun r τ => τ = σ ∧ K r)) 0 0 (AA ad sz) := by
  refine a_start (cc := cX3_hasLimit) (maxL := 4) (ret := (some .boolean)) (own := RX3) [Value.ref (ad b), vI p1, vI p2] (by decide) rfl rfl (Nat.le_of_ble_eq_true rfl) hinj hl0 ?_
  intro p e s m below meth c a hr hsz
  subst hsz
  have hts := a.1.2.2.2.2
  have w1 := hts (Cond.fieldLink RX3 33 "SightLegend$MapState" "limitCount" "[I") (List.mem_cons_of_mem _ (GL_2 _ (by decide +kernel)))
  have w2 : ∀ w ∈ u_ws RX3 TX3 13, w ∈ WW (.code yX3_hasLimit cX3_hasLimit 4 (some .boolean)) := fun w h => List.mem_cons_of_mem _ (inlX3 w h)
  have w3 : tyc (b + 8) (0, 12) := ty_of (d := 8) (t1 := (0, 12)) (by decide +kernel) rfl tb
  have w4 := hts (Cond.fieldLink RX3 36 "SightLegend$MapState" "limits" "[I") (List.mem_cons_of_mem _ (GL_2 _ (by decide +kernel)))
  have w5 : tyc (b + 9) (0, 60) := ty_of (d := 9) (t1 := (0, 60)) (by decide +kernel) rfl tb
  unfold f_X3_hasLimit at h
  refine a_sub (ls1 := [(0, Value.ref (ad b)), (1, vI p1), (2, vI p2)]) [0, 1, 2] rfl ?_
  refine a_iconst (pc := 0) a dX3_hasLimit_0 ?_
  refine a_istore_n (pc := 1) a (ls1 := [(3, vI 0), (0, Value.ref (ad b)), (1, vI p1), (2, vI p2)]) dX3_hasLimit_1 rfl (by decide) rfl ?_
  refine a_sub (ls1 := [(0, Value.ref (ad b)), (1, vI p1), (2, vI p2), (3, vI 0)]) [1, 2, 3, 0] rfl ?_
  refine g_wl1 (fun x1 => [(0, Value.ref (ad b)), (1, vI p1), (2, vI p2), (3, vI x1)]) h ?_
  clear h
  intro x1 ag2 hag2 h
  refine a_iload_n (pc := 2) a 3 dX3_hasLimit_2 rfl rfl ?_
  refine a_aload_n (pc := 3) a 0 dX3_hasLimit_3 rfl rfl ?_
  refine a_getR (pc := 4) a 8 8 rfl tb vc3 w2 w1 (by decide) (by decide) 8 (q := (b + 8)) rfl rfl dX3_hasLimit_4 ?_
  refine a_iload_n (pc := 7) a 1 dX3_hasLimit_7 rfl rfl ?_
  refine a_iald (pc := 8) a (tw hinj w3) (by decide) h.1 dX3_hasLimit_8 ?_
  replace h := h.2
  refine a_icmp_ge (pc := 9) a h.1 h.2.1 dX3_hasLimit_9 (tgt := 34) (by decide) (fun hq => ?_) (fun hq => ?_)
  · replace h := h.2.2.1 hq
    clear hq
    refine a_iconst (pc := 34) a dX3_hasLimit_34 ?_
    exact e_z (pc := 35) a hr (by decide) dX3_hasLimit_35 ⟨rfl, h⟩
  · replace h := h.2.2.2 hq
    clear hq
    refine a_aload_n (pc := 12) a 0 dX3_hasLimit_12 rfl rfl ?_
    refine a_getR (pc := 13) a 9 9 rfl tb vc3 w2 w4 (by decide) (by decide) 9 (q := (b + 9)) rfl rfl dX3_hasLimit_13 ?_
    refine a_iload_n (pc := 16) a 1 dX3_hasLimit_16 rfl rfl ?_
    refine a_iconst (pc := 17) a dX3_hasLimit_17 ?_
    refine a_imul (pc := 18) a dX3_hasLimit_18 ?_
    refine a_iload_n (pc := 19) a 3 dX3_hasLimit_19 rfl rfl ?_
    refine a_iadd (pc := 20) a dX3_hasLimit_20 ?_
    refine a_iald (pc := 21) a (tw hinj w5) (by decide) h.1 dX3_hasLimit_21 ?_
    replace h := h.2
    refine a_iload_n (pc := 22) a 2 dX3_hasLimit_22 rfl rfl ?_
    refine a_icmp_ne (pc := 23) a h.1 h.2.1 dX3_hasLimit_23 (tgt := 28) (by decide) (fun hq => ?_) (fun hq => ?_)
    · replace h := h.2.2.1 hq
      clear hq
      refine a_iinc (pc := 28) a (ls1 := [(3, vI (x1 + 1)), (0, Value.ref (ad b)), (1, vI p1), (2, vI p2)]) 3 dX3_hasLimit_28 rfl (by decide) rfl ?_
      refine a_goto (pc := 31) a dX3_hasLimit_31 (tgt := 2) (by decide) ?_
      refine a_sub (ls1 := [(0, Value.ref (ad b)), (1, vI p1), (2, vI p2), (3, vI (x1 + 1))]) [1, 2, 3, 0] rfl ?_
      exact hag2 (x1 + 1) h
    · replace h := h.2.2.2 hq
      clear hq
      refine a_iconst (pc := 26) a dX3_hasLimit_26 ?_
      exact e_z (pc := 27) a hr (by decide) dX3_hasLimit_27 ⟨rfl, h⟩

set_option maxRecDepth 100000 in
set_option maxHeartbeats 4000000 in
theorem c_X3_putLimit {l : Launch} {D : va_G} {X : XI} {ad : Nat → Nat} (hinj : adI ad) (hl0 : l.stackTraces = false) {b : Nat} {p1 : Int} {p2 : Int} (tb : tyc b (7, 0)) {σ : St} {K : St → Prop} (h : f_X3_putLimit b p1 p2 σ K) (sz : Nat) : Met l yX3_putLimit (WW (.code yX3_putLimit cX3_putLimit 5 none)) { frames := 0, cells := 0, slots := 0, locals := 0 } (va_Pc [Value.ref (ad b), vI p1, vI p2] (WD D X ad σ sz)) (QV D X ad sz K) 0 0 (AA ad sz) := by
  refine a_start (cc := cX3_putLimit) (maxL := 5) (ret := none) (own := RX3) [Value.ref (ad b), vI p1, vI p2] (by decide) rfl rfl (Nat.le_of_ble_eq_true rfl) hinj hl0 ?_
  intro p e s m below meth c a hr hsz
  subst hsz
  have hts := a.1.2.2.2.2
  have w1 := hts (Cond.fieldLink RX3 33 "SightLegend$MapState" "limitCount" "[I") (List.mem_cons_of_mem _ (GL_2 _ (by decide +kernel)))
  have w2 : ∀ w ∈ u_ws RX3 TX3 13, w ∈ WW (.code yX3_putLimit cX3_putLimit 5 none) := fun w h => List.mem_cons_of_mem _ (inlX3 w h)
  have w3 : tyc (b + 8) (0, 12) := ty_of (d := 8) (t1 := (0, 12)) (by decide +kernel) rfl tb
  have w4 := hts (Cond.fieldLink RX3 36 "SightLegend$MapState" "limits" "[I") (List.mem_cons_of_mem _ (GL_2 _ (by decide +kernel)))
  have w5 : tyc (b + 9) (0, 60) := ty_of (d := 9) (t1 := (0, 60)) (by decide +kernel) rfl tb
  unfold f_X3_putLimit at h
  refine a_sub (ls1 := [(0, Value.ref (ad b)), (1, vI p1), (2, vI p2)]) [0, 1, 2] rfl ?_
  refine a_aload_n (pc := 0) a 0 dX3_putLimit_0 rfl rfl ?_
  refine a_getR (pc := 1) a 8 8 rfl tb vc3 w2 w1 (by decide) (by decide) 8 (q := (b + 8)) rfl rfl dX3_putLimit_1 ?_
  refine a_iload_n (pc := 4) a 1 dX3_putLimit_4 rfl rfl ?_
  refine a_iald (pc := 5) a (tw hinj w3) (by decide) h.1 dX3_putLimit_5 ?_
  replace h := h.2
  refine a_iconst (pc := 6) a dX3_putLimit_6 ?_
  refine a_icmp_lt (pc := 7) a h.1 ⟨by decide, by decide⟩ dX3_putLimit_7 (tgt := 11) (by decide) (fun hq => ?_) (fun hq => ?_)
  · replace h := h.2.1 hq
    clear hq
    refine a_iload_n (pc := 11) a 1 dX3_putLimit_11 rfl rfl ?_
    refine a_iconst (pc := 12) a dX3_putLimit_12 ?_
    refine a_imul (pc := 13) a dX3_putLimit_13 ?_
    refine a_nm (fun x1 hx => ?_)
    replace h := h x1 hx
    clear hx
    refine a_istore_n (pc := 14) a (ls1 := [(3, vI x1), (0, Value.ref (ad b)), (1, vI p1), (2, vI p2)]) dX3_putLimit_14 rfl (by decide) rfl ?_
    refine a_iload_n (pc := 15) a 0 dX3_putLimit_15 rfl rfl ?_
    refine a_aload_n (pc := 16) a 1 dX3_putLimit_16 rfl rfl ?_
    refine a_getR (pc := 17) a 8 8 rfl tb vc3 w2 w1 (by decide) (by decide) 8 (q := (b + 8)) rfl rfl dX3_putLimit_17 ?_
    refine a_iload_n (pc := 20) a 2 dX3_putLimit_20 rfl rfl ?_
    refine a_iald (pc := 21) a (tw hinj w3) (by decide) h.1 dX3_putLimit_21 ?_
    replace h := h.2
    refine a_iadd (pc := 22) a dX3_putLimit_22 ?_
    refine a_nm (fun x2 hx => ?_)
    replace h := h x2 hx
    clear hx
    refine a_istore (pc := 23) a (ls1 := [(4, vI x2), (3, vI x1), (0, Value.ref (ad b)), (1, vI p1), (2, vI p2)]) dX3_putLimit_23 (by decide) rfl ?_
    refine a_sub (ls1 := [(0, Value.ref (ad b)), (1, vI p1), (2, vI p2), (3, vI x1), (4, vI x2)]) [2, 3, 4, 1, 0] rfl ?_
    refine g_wl1s (fun x3 => [(0, Value.ref (ad b)), (1, vI p1), (2, vI p2), (3, vI x1), (4, vI x3)]) h ?_
    clear h
    intro x3 s4 ag25 hag25 h
    refine a_iload (pc := 25) a 4 dX3_putLimit_25 rfl ?_
    refine a_iload_n (pc := 27) a 3 dX3_putLimit_27 rfl rfl ?_
    refine g_wj0 66 0 0 [(0, Value.ref (ad b)), (1, vI p1), (2, vI p2), (4, vI x3)] [] h ?_ ?_
    · clear h
      intro  h
      refine a_aload_n (pc := 66) a 0 dX3_putLimit_66 rfl rfl ?_
      refine a_getR (pc := 67) a 9 9 rfl tb vc3 w2 w4 (by decide) (by decide) 9 (q := (b + 9)) rfl rfl dX3_putLimit_67 ?_
      refine a_iload (pc := 70) a 3 dX3_putLimit_70 rfl ?_
      refine a_iload_n (pc := 72) a 2 dX3_putLimit_72 rfl rfl ?_
      refine a_iast (pc := 73) a (tw hinj w5) (by decide) h.1 dX3_putLimit_73 ?_
      replace h := h.2
      refine a_nmS (fun s7 hx => ?_)
      replace h := h s7 hx
      clear hx
      refine a_aload_n (pc := 74) a 0 dX3_putLimit_74 rfl rfl ?_
      refine a_getR (pc := 75) a 8 8 rfl tb vc3 w2 w1 (by decide) (by decide) 8 (q := (b + 8)) rfl rfl dX3_putLimit_75 ?_
      refine a_iload_n (pc := 78) a 1 dX3_putLimit_78 rfl rfl ?_
      refine a_dup2 (pc := 79) a rfl rfl dX3_putLimit_79 ?_
      refine a_iald (pc := 80) a (tw hinj w3) (by decide) h.1 dX3_putLimit_80 ?_
      replace h := h.2
      refine a_iconst (pc := 81) a dX3_putLimit_81 ?_
      refine a_iadd (pc := 82) a dX3_putLimit_82 ?_
      refine a_iast (pc := 83) a (tw hinj w3) (by decide) h.1 dX3_putLimit_83 ?_
      replace h := h.2
      refine a_nmS (fun s8 hx => ?_)
      replace h := h s8 hx
      clear hx
      exact e_v (pc := 84) a hr dX3_putLimit_84 h
    · clear h
      intro jj66 hjj66 h
      refine a_icmp_le (pc := 28) a h.1 h.2.1 dX3_putLimit_28 (tgt := 66) (by decide) (fun hq => ?_) (fun hq => ?_)
      · replace h := h.2.2.1 hq
        clear hq
        refine a_sub (ls1 := [(0, Value.ref (ad b)), (1, vI p1), (2, vI p2), (4, vI x3)]) [0, 1, 2, 4] rfl ?_
        exact hjj66  h
      · replace h := h.2.2.2 hq
        clear hq
        refine a_aload_n (pc := 31) a 0 dX3_putLimit_31 rfl rfl ?_
        refine a_getR (pc := 32) a 9 9 rfl tb vc3 w2 w4 (by decide) (by decide) 9 (q := (b + 9)) rfl rfl dX3_putLimit_32 ?_
        refine a_iload (pc := 35) a 4 dX3_putLimit_35 rfl ?_
        refine a_iconst (pc := 37) a dX3_putLimit_37 ?_
        refine a_isub (pc := 38) a dX3_putLimit_38 ?_
        refine a_iald (pc := 39) a (tw hinj w5) (by decide) h.1 dX3_putLimit_39 ?_
        replace h := h.2
        refine a_iload_n (pc := 40) a 2 dX3_putLimit_40 rfl rfl ?_
        refine a_icmp_le (pc := 41) a h.1 h.2.1 dX3_putLimit_41 (tgt := 66) (by decide) (fun hq => ?_) (fun hq => ?_)
        · replace h := h.2.2.1 hq
          clear hq
          refine a_sub (ls1 := [(0, Value.ref (ad b)), (1, vI p1), (2, vI p2), (4, vI x3)]) [0, 1, 2, 4] rfl ?_
          exact hjj66  h
        · replace h := h.2.2.2 hq
          clear hq
          refine a_aload_n (pc := 44) a 0 dX3_putLimit_44 rfl rfl ?_
          refine a_getR (pc := 45) a 9 9 rfl tb vc3 w2 w4 (by decide) (by decide) 9 (q := (b + 9)) rfl rfl dX3_putLimit_45 ?_
          refine a_iload (pc := 48) a 4 dX3_putLimit_48 rfl ?_
          refine a_aload_n (pc := 50) a 0 dX3_putLimit_50 rfl rfl ?_
          refine a_getR (pc := 51) a 9 9 rfl tb vc3 w2 w4 (by decide) (by decide) 9 (q := (b + 9)) rfl rfl dX3_putLimit_51 ?_
          refine a_iload (pc := 54) a 4 dX3_putLimit_54 rfl ?_
          refine a_iconst (pc := 56) a dX3_putLimit_56 ?_
          refine a_isub (pc := 57) a dX3_putLimit_57 ?_
          refine a_iald (pc := 58) a (tw hinj w5) (by decide) h.1 dX3_putLimit_58 ?_
          replace h := h.2
          refine a_iast (pc := 59) a (tw hinj w5) (by decide) h.1 dX3_putLimit_59 ?_
          replace h := h.2
          refine a_nmS (fun s6 hx => ?_)
          replace h := h s6 hx
          clear hx
          refine a_iinc (pc := 60) a (ls1 := [(4, vI (x3 + (-1))), (0, Value.ref (ad b)), (1, vI p1), (2, vI p2), (3, vI x1)]) 4 dX3_putLimit_60 rfl (by decide) rfl ?_
          refine a_goto (pc := 63) a dX3_putLimit_63 (tgt := 25) (by decide) ?_
          refine a_sub (ls1 := [(0, Value.ref (ad b)), (1, vI p1), (2, vI p2), (3, vI x1), (4, vI (x3 + (-1)))]) [1, 2, 3, 4, 0] rfl ?_
          exact hag25 (x3 + (-1)) s6 h
  · replace h := h.2.2 hq
    clear hq
    exact e_v (pc := 10) a hr dX3_putLimit_10 h

set_option maxRecDepth 100000 in
set_option maxHeartbeats 4000000 in
theorem c_X3_dropLimit {l : Launch} {D : va_G} {X : XI} {ad : Nat → Nat} (hinj : adI ad) (hl0 : l.stackTraces = false) {b : Nat} {p1 : Int} {p2 : Int} (tb : tyc b (7, 0)) {σ : St} {K : St → Prop} (h : f_X3_dropLimit b p1 p2 σ K) (sz : Nat) : Met l yX3_dropLimit (WW (.code yX3_dropLimit cX3_dropLimit 7 none)) { frames := 0, cells := 0, slots := 0, locals := 0 } (va_Pc [Value.ref (ad b), vI p1, vI p2] (WD D X ad σ sz)) (QV D X ad sz K) 0 0 (AA ad sz) := by
  refine a_start (cc := cX3_dropLimit) (maxL := 7) (ret := none) (own := RX3) [Value.ref (ad b), vI p1, vI p2] (by decide) rfl rfl (Nat.le_of_ble_eq_true rfl) hinj hl0 ?_
  intro p e s m below meth c a hr hsz
  subst hsz
  have hts := a.1.2.2.2.2
  have w1 := hts (Cond.fieldLink RX3 33 "SightLegend$MapState" "limitCount" "[I") (List.mem_cons_of_mem _ (GL_2 _ (by decide +kernel)))
  have w2 : ∀ w ∈ u_ws RX3 TX3 13, w ∈ WW (.code yX3_dropLimit cX3_dropLimit 7 none) := fun w h => List.mem_cons_of_mem _ (inlX3 w h)
  have w3 : tyc (b + 8) (0, 12) := ty_of (d := 8) (t1 := (0, 12)) (by decide +kernel) rfl tb
  have w4 := hts (Cond.fieldLink RX3 36 "SightLegend$MapState" "limits" "[I") (List.mem_cons_of_mem _ (GL_2 _ (by decide +kernel)))
  have w5 : tyc (b + 9) (0, 60) := ty_of (d := 9) (t1 := (0, 60)) (by decide +kernel) rfl tb
  unfold f_X3_dropLimit at h
  refine a_sub (ls1 := [(0, Value.ref (ad b)), (1, vI p1), (2, vI p2)]) [0, 1, 2] rfl ?_
  refine a_iload_n (pc := 0) a 1 dX3_dropLimit_0 rfl rfl ?_
  refine a_iconst (pc := 1) a dX3_dropLimit_1 ?_
  refine a_imul (pc := 2) a dX3_dropLimit_2 ?_
  refine a_nm (fun x1 hx => ?_)
  replace h := h x1 hx
  clear hx
  refine a_istore_n (pc := 3) a (ls1 := [(3, vI x1), (0, Value.ref (ad b)), (1, vI p1), (2, vI p2)]) dX3_dropLimit_3 rfl (by decide) rfl ?_
  refine a_iconst (pc := 4) a dX3_dropLimit_4 ?_
  refine a_istore (pc := 5) a (ls1 := [(4, vI 0), (3, vI x1), (0, Value.ref (ad b)), (1, vI p1), (2, vI p2)]) dX3_dropLimit_5 (by decide) rfl ?_
  refine a_iconst (pc := 7) a dX3_dropLimit_7 ?_
  refine a_istore (pc := 8) a (ls1 := [(5, vI 0), (4, vI 0), (3, vI x1), (0, Value.ref (ad b)), (1, vI p1), (2, vI p2)]) dX3_dropLimit_8 (by decide) rfl ?_
  refine a_sub (ls1 := [(0, Value.ref (ad b)), (1, vI p1), (2, vI p2), (3, vI x1), (4, vI 0), (5, vI 0)]) [3, 4, 5, 2, 1, 0] rfl ?_
  refine g_wl2s (fun x2 x3 => [(0, Value.ref (ad b)), (1, vI p1), (2, vI p2), (3, vI x1), (4, vI x2), (5, vI x3)]) h ?_
  clear h
  intro x2 x3 s4 ag10 hag10 h
  refine a_iload (pc := 10) a 5 dX3_dropLimit_10 rfl ?_
  refine a_aload_n (pc := 12) a 0 dX3_dropLimit_12 rfl rfl ?_
  refine a_getR (pc := 13) a 8 8 rfl tb vc3 w2 w1 (by decide) (by decide) 8 (q := (b + 8)) rfl rfl dX3_dropLimit_13 ?_
  refine a_iload_n (pc := 16) a 1 dX3_dropLimit_16 rfl rfl ?_
  refine a_iald (pc := 17) a (tw hinj w3) (by decide) h.1 dX3_dropLimit_17 ?_
  replace h := h.2
  refine a_icmp_ge (pc := 18) a h.1 h.2.1 dX3_dropLimit_18 (tgt := 58) (by decide) (fun hq => ?_) (fun hq => ?_)
  · replace h := h.2.2.1 hq
    clear hq
    refine a_aload_n (pc := 58) a 0 dX3_dropLimit_58 rfl rfl ?_
    refine a_getR (pc := 59) a 8 8 rfl tb vc3 w2 w1 (by decide) (by decide) 8 (q := (b + 8)) rfl rfl dX3_dropLimit_59 ?_
    refine a_iload_n (pc := 62) a 1 dX3_dropLimit_62 rfl rfl ?_
    refine a_iload (pc := 63) a 4 dX3_dropLimit_63 rfl ?_
    refine a_iast (pc := 65) a (tw hinj w3) (by decide) h.1 dX3_dropLimit_65 ?_
    replace h := h.2
    refine a_nmS (fun s5 hx => ?_)
    replace h := h s5 hx
    clear hx
    exact e_v (pc := 66) a hr dX3_dropLimit_66 h
  · replace h := h.2.2.2 hq
    clear hq
    refine a_aload_n (pc := 21) a 0 dX3_dropLimit_21 rfl rfl ?_
    refine a_getR (pc := 22) a 9 9 rfl tb vc3 w2 w4 (by decide) (by decide) 9 (q := (b + 9)) rfl rfl dX3_dropLimit_22 ?_
    refine a_iload_n (pc := 25) a 3 dX3_dropLimit_25 rfl rfl ?_
    refine a_iload (pc := 26) a 5 dX3_dropLimit_26 rfl ?_
    refine a_iadd (pc := 28) a dX3_dropLimit_28 ?_
    refine a_iald (pc := 29) a (tw hinj w5) (by decide) h.1 dX3_dropLimit_29 ?_
    replace h := h.2
    refine a_nm (fun x6 hx => ?_)
    replace h := h x6 hx
    clear hx
    refine a_istore (pc := 30) a (ls1 := [(6, vI x6), (0, Value.ref (ad b)), (1, vI p1), (2, vI p2), (3, vI x1), (4, vI x2), (5, vI x3)]) dX3_dropLimit_30 (by decide) rfl ?_
    refine a_iload (pc := 32) a 0 dX3_dropLimit_32 rfl ?_
    refine a_iload_n (pc := 34) a 3 dX3_dropLimit_34 rfl rfl ?_
    refine a_icmp_eq (pc := 35) a h.1 h.2.1 dX3_dropLimit_35 (tgt := 52) (by decide) (fun hq => ?_) (fun hq => ?_)
    · replace h := h.2.2.1 hq
      clear hq
      refine a_iinc (pc := 52) a (ls1 := [(5, vI (x3 + 1)), (6, vI x6), (0, Value.ref (ad b)), (1, vI p1), (2, vI p2), (3, vI x1), (4, vI x2)]) 6 dX3_dropLimit_52 rfl (by decide) rfl ?_
      refine a_goto (pc := 55) a dX3_dropLimit_55 (tgt := 10) (by decide) ?_
      refine a_sub (ls1 := [(0, Value.ref (ad b)), (1, vI p1), (2, vI p2), (3, vI x1), (4, vI x2), (5, vI (x3 + 1))]) [2, 3, 4, 5, 6, 0] rfl ?_
      exact hag10 x2 (x3 + 1) s4 h
    · replace h := h.2.2.2 hq
      clear hq
      refine a_aload_n (pc := 38) a 1 dX3_dropLimit_38 rfl rfl ?_
      refine a_getR (pc := 39) a 9 9 rfl tb vc3 w2 w4 (by decide) (by decide) 9 (q := (b + 9)) rfl rfl dX3_dropLimit_39 ?_
      refine a_iload_n (pc := 42) a 4 dX3_dropLimit_42 rfl rfl ?_
      refine a_iload (pc := 43) a 5 dX3_dropLimit_43 rfl ?_
      refine a_iadd (pc := 45) a dX3_dropLimit_45 ?_
      refine a_iload (pc := 46) a 0 dX3_dropLimit_46 rfl ?_
      refine a_iast (pc := 48) a (tw hinj w5) (by decide) h.1 dX3_dropLimit_48 ?_
      replace h := h.2
      refine a_nmS (fun s7 hx => ?_)
      replace h := h s7 hx
      clear hx
      refine a_iinc (pc := 49) a (ls1 := [(4, vI (x2 + 1)), (6, vI x6), (0, Value.ref (ad b)), (1, vI p1), (2, vI p2), (3, vI x1), (5, vI x3)]) 5 dX3_dropLimit_49 rfl (by decide) rfl ?_
      refine a_iinc (pc := 52) a (ls1 := [(5, vI (x3 + 1)), (4, vI (x2 + 1)), (6, vI x6), (0, Value.ref (ad b)), (1, vI p1), (2, vI p2), (3, vI x1)]) 6 dX3_dropLimit_52 rfl (by decide) rfl ?_
      refine a_goto (pc := 55) a dX3_dropLimit_55 (tgt := 10) (by decide) ?_
      refine a_sub (ls1 := [(0, Value.ref (ad b)), (1, vI p1), (2, vI p2), (3, vI x1), (4, vI (x2 + 1)), (5, vI (x3 + 1))]) [3, 4, 5, 6, 1, 0] rfl ?_
      exact hag10 (x2 + 1) (x3 + 1) s7 h
