set_option maxRecDepth 100000 in
set_option maxHeartbeats 4000000 in
theorem c_X6_demandKind {l : Launch} {D : va_G} {X : XI} {ad : Nat → Nat} (hinj : adI ad) (hl0 : l.stackTraces = false) {p1 : Int}  {σ : St} {K : Prop} {X2 : Nat → Prop} (h : f_X6_demandKind p1 σ K X2) (sz : Nat) : vx_Met l yX6_demandKind (WW (.code yX6_demandKind cX6_demandKind 1 none)) { frames := 6, cells := 1, slots := 6, locals := 90 } (va_Pc [vI p1] (WD D X ad σ sz)) (QV D X ad sz (fun τ => τ = σ ∧ K)) (XX D X ad sz (fun c τ => τ = σ ∧ X2 c)) 1 6 (AA ad sz) := by
  refine ax_start (cc := cX6_demandKind) (maxL := 1) (ret := none) (own := RX6) [vI p1] (by decide) rfl rfl (Nat.le_of_ble_eq_true rfl) hinj hl0 ?_
  intro p e s m below meth c a hr hno hsz
  subst hsz
  have hts := a.1.2.2.2.2
  have w1 := hts (Cond.classLink RX6 106 "java/lang/IndexOutOfBoundsException") (List.mem_cons_of_mem _ (GL_16 _ (by decide +kernel)))
  have w2 := hts (Cond.initialized "java/lang/IndexOutOfBoundsException") (List.mem_cons_of_mem _ (GL_16 _ (by decide +kernel)))
  have w3 : ∀ w ∈ (vx_atS RX6 110 "java/lang/IndexOutOfBoundsException" ["java/lang/RuntimeException", "java/lang/Exception"]), w.before _ s = true := vx_hat (L := (vx_atS RX6 110 "java/lang/IndexOutOfBoundsException" ["java/lang/RuntimeException", "java/lang/Exception"])) (B := Cond.castable "java/lang/IndexOutOfBoundsException" "java/lang/IndexOutOfBoundsException" :: sups.map (fun x => Cond.declares (Bundle.initS x))) (fun w h => hts w (List.mem_cons_of_mem _ (GT_110 w h))) (by decide +kernel) (fun w h => ex_B (va_Nw.use rfl (a.2.2.2.1.2.2.2.2.1 _ (by decide))) (fun E hE => va_Nw.use rfl (a.2.2.2.1.2.2.2.2.2.1 E hE)) w h)
  unfold f_X6_demandKind at h
  refine a_sub (ls1 := [(0, vI p1)]) [0] rfl ?_
  refine a_iload_n (pc := 0) a 0 dX6_demandKind_0 rfl rfl ?_
  refine a_if_lt (pc := 1) a h.1 dX6_demandKind_1 (tgt := 10) (by decide) (fun hq => ?_) (fun hq => ?_)
  · replace h := h.2.1 hq
    clear hq
    exact x_throwW (pc := 10) a hno (text := "there is no such kind") (by decide) rfl (cx := 1) rfl (names := ["java/lang/RuntimeException", "java/lang/Exception"]) (by decide +kernel) (by decide +kernel) w1 w2 w3 (by decide +kernel) dX6_demandKind_10 dX6_demandKind_13 dX6_demandKind_14 dX6_demandKind_17 dX6_demandKind_20 (Nat.le_of_ble_eq_true rfl) (Nat.le_of_ble_eq_true rfl) (Nat.le_of_ble_eq_true rfl) (Nat.le_of_ble_eq_true rfl) (Nat.le_of_ble_eq_true rfl) (Nat.le_of_ble_eq_true rfl) ⟨rfl, h⟩
  · replace h := h.2.2 hq
    clear hq
    refine a_iload_n (pc := 4) a 0 dX6_demandKind_4 rfl rfl ?_
    refine a_bipush (pc := 5) a dX6_demandKind_5 (by decide) ?_
    refine a_icmp_lt (pc := 7) a h.1 ⟨by decide, by decide⟩ dX6_demandKind_7 (tgt := 21) (by decide) (fun hq => ?_) (fun hq => ?_)
    · replace h := h.2.1 hq
      clear hq
      exact ex_v (pc := 21) a hr dX6_demandKind_21 (by decide) (by decide) ⟨rfl, h⟩
    · replace h := h.2.2 hq
      clear hq
      exact x_throwW (pc := 10) a hno (text := "there is no such kind") (by decide) rfl (cx := 1) rfl (names := ["java/lang/RuntimeException", "java/lang/Exception"]) (by decide +kernel) (by decide +kernel) w1 w2 w3 (by decide +kernel) dX6_demandKind_10 dX6_demandKind_13 dX6_demandKind_14 dX6_demandKind_17 dX6_demandKind_20 (Nat.le_of_ble_eq_true rfl) (Nat.le_of_ble_eq_true rfl) (Nat.le_of_ble_eq_true rfl) (Nat.le_of_ble_eq_true rfl) (Nat.le_of_ble_eq_true rfl) (Nat.le_of_ble_eq_true rfl) ⟨rfl, h⟩

set_option maxRecDepth 100000 in
set_option maxHeartbeats 4000000 in
theorem c_X6_demandBelow {l : Launch} {D : va_G} {X : XI} {ad : Nat → Nat} (hinj : adI ad) (hl0 : l.stackTraces = false) {p1 : Int} {p2 : Int}  {σ : St} {K : Prop} {X2 : Nat → Prop} (h : f_X6_demandBelow p1 p2 σ K X2) (sz : Nat) : vx_Met l yX6_demandBelow (WW (.code yX6_demandBelow cX6_demandBelow 2 none)) { frames := 6, cells := 1, slots := 6, locals := 90 } (va_Pc [vI p1, vI p2] (WD D X ad σ sz)) (QV D X ad sz (fun τ => τ = σ ∧ K)) (XX D X ad sz (fun c τ => τ = σ ∧ X2 c)) 1 6 (AA ad sz) := by
  refine ax_start (cc := cX6_demandBelow) (maxL := 2) (ret := none) (own := RX6) [vI p1, vI p2] (by decide) rfl rfl (Nat.le_of_ble_eq_true rfl) hinj hl0 ?_
  intro p e s m below meth c a hr hno hsz
  subst hsz
  have hts := a.1.2.2.2.2
  have w1 := hts (Cond.classLink RX6 92 "java/lang/IllegalArgumentException") (List.mem_cons_of_mem _ (GL_14 _ (by decide +kernel)))
  have w2 := hts (Cond.initialized "java/lang/IllegalArgumentException") (List.mem_cons_of_mem _ (GL_14 _ (by decide +kernel)))
  have w3 : ∀ w ∈ (vx_atS RX6 96 "java/lang/IllegalArgumentException" ["java/lang/RuntimeException", "java/lang/Exception"]), w.before _ s = true := vx_hat (L := (vx_atS RX6 96 "java/lang/IllegalArgumentException" ["java/lang/RuntimeException", "java/lang/Exception"])) (B := Cond.castable "java/lang/IllegalArgumentException" "java/lang/IllegalArgumentException" :: sups.map (fun x => Cond.declares (Bundle.initS x))) (fun w h => hts w (List.mem_cons_of_mem _ (GT_96 w h))) (by decide +kernel) (fun w h => ex_B (va_Nw.use rfl (a.2.2.2.1.2.2.2.2.1 _ (by decide))) (fun E hE => va_Nw.use rfl (a.2.2.2.1.2.2.2.2.2.1 E hE)) w h)
  unfold f_X6_demandBelow at h
  refine a_sub (ls1 := [(0, vI p1), (1, vI p2)]) [0, 1] rfl ?_
  refine a_iload_n (pc := 0) a 0 dX6_demandBelow_0 rfl rfl ?_
  refine a_if_lt (pc := 1) a h.1 dX6_demandBelow_1 (tgt := 9) (by decide) (fun hq => ?_) (fun hq => ?_)
  · replace h := h.2.1 hq
    clear hq
    exact x_throwW (pc := 9) a hno (text := "an argument is out of its range") (by decide) rfl (cx := 2) rfl (names := ["java/lang/RuntimeException", "java/lang/Exception"]) (by decide +kernel) (by decide +kernel) w1 w2 w3 (by decide +kernel) dX6_demandBelow_9 dX6_demandBelow_12 dX6_demandBelow_13 dX6_demandBelow_16 dX6_demandBelow_19 (Nat.le_of_ble_eq_true rfl) (Nat.le_of_ble_eq_true rfl) (Nat.le_of_ble_eq_true rfl) (Nat.le_of_ble_eq_true rfl) (Nat.le_of_ble_eq_true rfl) (Nat.le_of_ble_eq_true rfl) ⟨rfl, h⟩
  · replace h := h.2.2 hq
    clear hq
    refine a_iload_n (pc := 4) a 0 dX6_demandBelow_4 rfl rfl ?_
    refine a_iload_n (pc := 5) a 1 dX6_demandBelow_5 rfl rfl ?_
    refine a_icmp_lt (pc := 6) a h.1 h.2.1 dX6_demandBelow_6 (tgt := 20) (by decide) (fun hq => ?_) (fun hq => ?_)
    · replace h := h.2.2.1 hq
      clear hq
      exact ex_v (pc := 20) a hr dX6_demandBelow_20 (by decide) (by decide) ⟨rfl, h⟩
    · replace h := h.2.2.2 hq
      clear hq
      exact x_throwW (pc := 9) a hno (text := "an argument is out of its range") (by decide) rfl (cx := 2) rfl (names := ["java/lang/RuntimeException", "java/lang/Exception"]) (by decide +kernel) (by decide +kernel) w1 w2 w3 (by decide +kernel) dX6_demandBelow_9 dX6_demandBelow_12 dX6_demandBelow_13 dX6_demandBelow_16 dX6_demandBelow_19 (Nat.le_of_ble_eq_true rfl) (Nat.le_of_ble_eq_true rfl) (Nat.le_of_ble_eq_true rfl) (Nat.le_of_ble_eq_true rfl) (Nat.le_of_ble_eq_true rfl) (Nat.le_of_ble_eq_true rfl) ⟨rfl, h⟩

set_option maxRecDepth 100000 in
set_option maxHeartbeats 4000000 in
theorem c_X6_saveState {l : Launch} {D : va_G} {X : XI} {ad : Nat → Nat} (hinj : adI ad) (hl0 : l.stackTraces = false)   {σ : St} {K : St → Prop} (h : f_X6_saveState σ K) (sz : Nat) : Met l yX6_saveState (WW (.code yX6_saveState cX6_saveState 2 none)) { frames := 3, cells := 0, slots := 0, locals := 66 } (va_Pc [Value.ref (ad 0)] (WD D X ad σ sz)) (QV D X ad sz K) 0 0 (AA ad sz) := by
  refine a_start (cc := cX6_saveState) (maxL := 2) (ret := none) (own := RX6) [Value.ref (ad 0)] (by decide) rfl rfl (Nat.le_of_ble_eq_true rfl) hinj hl0 ?_
  intro p e s m below meth c a hr hsz
  subst hsz
  have hts := a.1.2.2.2.2
  have tb : tyc 0 (10, 0) := ⟨by decide, rfl⟩
  have w1 := hts (Cond.fieldLink RX6 222 "SightLegend" "savedCount" "I") (List.mem_cons_of_mem _ (GL_20 _ (by decide +kernel)))
  have w2 : ∀ w ∈ u_ws RX6 TX6 8, w ∈ WW (.code yX6_saveState cX6_saveState 2 none) := fun w h => List.mem_cons_of_mem _ (inlX6 w h)
  have w3 := hts (Cond.fieldLink RX6 227 "SightLegend" "oldestSaved" "I") (List.mem_cons_of_mem _ (GL_20 _ (by decide +kernel)))
  have w4 := hts (Cond.fieldLink RX6 36 "SightLegend" "saved" "[LSightLegend$MapState;") (List.mem_cons_of_mem _ (GL_2 _ (by decide +kernel)))
  have w5 : tyc 108 (2, 109) := ty_of (d := 108) (t1 := (2, 109)) (by decide +kernel) rfl tb
  have w6 := hts (Cond.fieldLink RX6 10 "SightLegend" "map" "LSightLegend$MapState;") (List.mem_cons_of_mem _ (GL_1 _ (by decide +kernel)))
  have w7 : tyc 1 (7, 0) := ty_of (d := 1) (t1 := (7, 0)) (by decide +kernel) rfl tb
  have w8 := hts (Cond.fieldLink RX6 19 "SightLegend" "legend" "LSightLegend$Legend;") (List.mem_cons_of_mem _ (GL_1 _ (by decide +kernel)))
  have w9 : tyc 14 (5, 0) := ty_of (d := 14) (t1 := (5, 0)) (by decide +kernel) rfl tb
  have w10 := hts (Cond.fieldLink RX6 183 "SightLegend$Legend" "stands" "Z") (List.mem_cons_of_mem _ (GL_20 _ (by decide +kernel)))
  have w11 : ∀ w ∈ u_ws RX1 TX1 12, w ∈ WW (.code yX6_saveState cX6_saveState 2 none) := fun w h => List.mem_cons_of_mem _ (inlX1 w h)
  unfold f_X6_saveState at h
  refine a_sub (ls1 := [(0, Value.ref (ad 0))]) [0] rfl ?_
  refine a_aload_n (pc := 0) a 0 dX6_saveState_0 rfl rfl ?_
  refine a_getI (pc := 1) a 7 7 rfl tb vc6 w2 w1 (by decide) (by decide) rfl dX6_saveState_1 ?_
  refine a_iconst (pc := 4) a dX6_saveState_4 ?_
  refine g_wj0s 30 0 0 [(0, Value.ref (ad 0))] [] h ?_ ?_
  · clear h
    intro s4 h
    refine a_aload_n (pc := 30) a 0 dX6_saveState_30 rfl rfl ?_
    refine a_getR (pc := 31) a 5 5 rfl tb vc6 w2 w4 (by decide) (by decide) 108 (q := 108) rfl rfl dX6_saveState_31 ?_
    refine a_aload_n (pc := 34) a 0 dX6_saveState_34 rfl rfl ?_
    refine a_getI (pc := 35) a 6 6 rfl tb vc6 w2 w3 (by decide) (by decide) rfl dX6_saveState_35 ?_
    refine a_aload_n (pc := 38) a 0 dX6_saveState_38 rfl rfl ?_
    refine a_getI (pc := 39) a 7 7 rfl tb vc6 w2 w1 (by decide) (by decide) rfl dX6_saveState_39 ?_
    refine a_iadd (pc := 42) a dX6_saveState_42 ?_
    refine a_iconst (pc := 43) a dX6_saveState_43 ?_
    refine a_irem (pc := 44) a dX6_saveState_44 h.1 (by decide) ?_
    replace h := h.2
    refine a_aald (pc := 45) a w5 h.1 dX6_saveState_45 ?_
    have tr5 := ty_saved h.1
    replace h := h.2
    refine a_nmR (fun r5 hx => ?_)
    rw [← hx] at tr5
    replace h := h r5 hx
    clear hx
    refine a_astore_n (pc := 46) a (ls1 := [(1, Value.ref (ad r5)), (0, Value.ref (ad 0))]) dX6_saveState_46 rfl (by decide) rfl ?_
    refine a_aload_n (pc := 47) a 0 dX6_saveState_47 rfl rfl ?_
    refine a_ifnull (pc := 48) a dX6_saveState_48 ?_
    refine a_aload_n (pc := 51) a 0 dX6_saveState_51 rfl rfl ?_
    refine a_aload_n (pc := 52) a 1 dX6_saveState_52 rfl rfl ?_
    refine a_getR (pc := 53) a 0 0 rfl tb vc6 w2 w6 (by decide) (by decide) 1 (q := 1) rfl rfl dX6_saveState_53 ?_
    refine a_cvv (pc := 56) a (As := [Value.ref (ad 1)]) (rest := []) tr5 vc3 (fun sz => c_X3_copyFrom hinj hl0 tr5 w7 h sz) (cwV 1 hts (gl_V (GL_20 _ (by decide +kernel)) (GL_20 _ (by decide +kernel)) (GL_20 _ (by decide +kernel)) (GL_1 _ (by decide +kernel)) (GL_20 _ (by decide +kernel))) rfl rfl rfl (by decide +kernel) ⟨Nat.le_of_ble_eq_true rfl, Nat.le_of_ble_eq_true rfl⟩) rfl rfl (Nat.le_of_ble_eq_true rfl) ⟨Nat.le_of_ble_eq_true rfl, Nat.le_of_ble_eq_true rfl⟩ dX6_saveState_56 ?_
    clear h
    intro s6 h
    refine a_aload_n (pc := 59) a 1 dX6_saveState_59 rfl rfl ?_
    refine a_dup (pc := 60) a rfl dX6_saveState_60 ?_
    refine a_getI (pc := 61) a 7 7 rfl tb vc6 w2 w1 (by decide) (by decide) rfl dX6_saveState_61 ?_
    refine a_iconst (pc := 64) a dX6_saveState_64 ?_
    refine a_iadd (pc := 65) a dX6_saveState_65 ?_
    refine a_putI (pc := 66) a 7 7 rfl tb vc6 w2 w1 (by decide) (by decide) tyX6 tyX6_ok nmX6 rfl rfl (by decide +kernel) dX6_saveState_66 ?_
    refine a_nmS (fun s7 hx => ?_)
    replace h := h s7 hx
    clear hx
    refine a_aload_n (pc := 69) a 1 dX6_saveState_69 rfl rfl ?_
    refine a_getR (pc := 70) a 1 1 rfl tb vc6 w2 w8 (by decide) (by decide) 14 (q := 14) rfl rfl dX6_saveState_70 ?_
    refine a_iconst (pc := 73) a dX6_saveState_73 ?_
    refine a_putZ (pc := 74) a 0 0 rfl w9 vc1 w11 w10 (by decide) (by decide) tyX1 tyX1_ok nmX1 (by decide) rfl rfl (by decide +kernel) dX6_saveState_74 ?_
    refine a_nmS (fun s8 hx => ?_)
    replace h := h s8 hx
    clear hx
    exact e_v (pc := 77) a hr dX6_saveState_77 h
  · clear h
    intro jj30 hjj30 h
    refine a_icmp_ne (pc := 5) a h.1 ⟨by decide, by decide⟩ dX6_saveState_5 (tgt := 30) (by decide) (fun hq => ?_) (fun hq => ?_)
    · replace h := h.2.1 hq
      clear hq
      exact hjj30 σ h
    · replace h := h.2.2 hq
      clear hq
      refine a_aload_n (pc := 8) a 0 dX6_saveState_8 rfl rfl ?_
      refine a_aload_n (pc := 9) a 0 dX6_saveState_9 rfl rfl ?_
      refine a_getI (pc := 10) a 6 6 rfl tb vc6 w2 w3 (by decide) (by decide) rfl dX6_saveState_10 ?_
      refine a_iconst (pc := 13) a dX6_saveState_13 ?_
      refine a_iadd (pc := 14) a dX6_saveState_14 ?_
      refine a_iconst (pc := 15) a dX6_saveState_15 ?_
      refine a_irem (pc := 16) a dX6_saveState_16 h.1 (by decide) ?_
      replace h := h.2
      refine a_putI (pc := 17) a 6 6 rfl tb vc6 w2 w3 (by decide) (by decide) tyX6 tyX6_ok nmX6 rfl rfl (by decide +kernel) dX6_saveState_17 ?_
      refine a_nmS (fun s2 hx => ?_)
      replace h := h s2 hx
      clear hx
      refine a_aload_n (pc := 20) a 0 dX6_saveState_20 rfl rfl ?_
      refine a_dup (pc := 21) a rfl dX6_saveState_21 ?_
      refine a_getI (pc := 22) a 7 7 rfl tb vc6 w2 w1 (by decide) (by decide) rfl dX6_saveState_22 ?_
      refine a_iconst (pc := 25) a dX6_saveState_25 ?_
      refine a_isub (pc := 26) a dX6_saveState_26 ?_
      refine a_putI (pc := 27) a 7 7 rfl tb vc6 w2 w1 (by decide) (by decide) tyX6 tyX6_ok nmX6 rfl rfl (by decide +kernel) dX6_saveState_27 ?_
      refine a_nmS (fun s3 hx => ?_)
      replace h := h s3 hx
      clear hx
      exact hjj30 s3 h

set_option maxRecDepth 100000 in
set_option maxHeartbeats 4000000 in
theorem c_X6_addSign {l : Launch} {D : va_G} {X : XI} {ad : Nat → Nat} (hinj : adI ad) (hl0 : l.stackTraces = false) {p1 : Int} {p2 : Int} {p3 : Int} {p4 : Int} {p5 : Int}  {σ : St} {K : Int → St → Prop} {X2 : Nat → St → Prop} (h : f_X6_addSign p1 p2 p3 p4 p5 σ K X2) (sz : Nat) : vx_Met l yX6_addSign (WW (.code yX6_addSign cX6_addSign 6 (some .int))) { frames := 7, cells := 6, slots := 36, locals := 111 } (va_Pc [Value.ref (ad 0), vI p1, vI p2, vI p3, vI p4, vI p5] (WD D X ad σ sz)) (QI D X ad sz K) (XX D X ad sz X2) 6 36 (AA ad sz) := by
  refine ax_start (cc := cX6_addSign) (maxL := 6) (ret := (some .int)) (own := RX6) [Value.ref (ad 0), vI p1, vI p2, vI p3, vI p4, vI p5] (by decide) rfl rfl (Nat.le_of_ble_eq_true rfl) hinj hl0 ?_
  intro p e s m below meth c a hr hno hsz
  subst hsz
  have hts := a.1.2.2.2.2
  have tb : tyc 0 (10, 0) := ⟨by decide, rfl⟩
  have w1 := hts (Cond.fieldLink RX6 10 "SightLegend" "map" "LSightLegend$MapState;") (List.mem_cons_of_mem _ (GL_1 _ (by decide +kernel)))
  have w2 : ∀ w ∈ u_ws RX6 TX6 8, w ∈ WW (.code yX6_addSign cX6_addSign 6 (some .int)) := fun w h => List.mem_cons_of_mem _ (inlX6 w h)
  have w3 : tyc 1 (7, 0) := ty_of (d := 1) (t1 := (7, 0)) (by decide +kernel) rfl tb
  have w4 := hts (Cond.fieldLink RX6 48 "SightLegend$MapState" "signCount" "I") (List.mem_cons_of_mem _ (GL_15 _ (by decide +kernel)))
  have w5 : ∀ w ∈ u_ws RX3 TX3 13, w ∈ WW (.code yX6_addSign cX6_addSign 6 (some .int)) := fun w h => List.mem_cons_of_mem _ (inlX3 w h)
  have w6 := hts (Cond.classLink RX6 52 "java/lang/IllegalStateException") (List.mem_cons_of_mem _ (GL_22 _ (by decide +kernel)))
  have w7 := hts (Cond.initialized "java/lang/IllegalStateException") (List.mem_cons_of_mem _ (GL_22 _ (by decide +kernel)))
  have w8 : ∀ w ∈ (vx_atS RX6 56 "java/lang/IllegalStateException" ["java/lang/RuntimeException", "java/lang/Exception"]), w.before _ s = true := vx_hat (L := (vx_atS RX6 56 "java/lang/IllegalStateException" ["java/lang/RuntimeException", "java/lang/Exception"])) (B := Cond.castable "java/lang/IllegalStateException" "java/lang/IllegalStateException" :: sups.map (fun x => Cond.declares (Bundle.initS x))) (fun w h => hts w (List.mem_cons_of_mem _ (GT_56 w h))) (by decide +kernel) (fun w h => ex_B (va_Nw.use rfl (a.2.2.2.1.2.2.2.2.1 _ (by decide))) (fun E hE => va_Nw.use rfl (a.2.2.2.1.2.2.2.2.2.1 E hE)) w h)
  unfold f_X6_addSign at h
  refine a_sub (ls1 := [(0, Value.ref (ad 0)), (1, vI p1), (2, vI p2), (3, vI p3), (4, vI p4), (5, vI p5)]) [0, 1, 2, 3, 4, 5] rfl ?_
  refine a_iload_n (pc := 0) a 1 dX6_addSign_0 rfl rfl ?_
  refine a_xsv (pc := 1) a (As := [vI p1]) (rest := []) (fun sz => c_X6_demandKind hinj hl0  h sz) (va_cwS 1 hts (gl_S (GL_18 _ (by decide +kernel)) (GL_18 _ (by decide +kernel)) (GL_1 _ (by decide +kernel)) (GL_18 _ (by decide +kernel))) rfl rfl rfl (by decide +kernel) ⟨Nat.le_of_ble_eq_true rfl, Nat.le_of_ble_eq_true rfl⟩) rfl rfl (Nat.le_of_ble_eq_true rfl) ⟨Nat.le_of_ble_eq_true rfl, Nat.le_of_ble_eq_true rfl⟩ dX6_addSign_1 ?_ ?_
  · rintro E cx ce q9 s9 H1 locs1 la ⟨hs9, hk⟩ hE hP hS hl h1 h2 h3
    subst s9
    exact x_pass a hno (by decide) (by decide) hk hE hP hS h1 h2 h3
  rintro s9 ⟨hs9, h9⟩
  subst s9
  replace h := h9
  clear h9
  refine a_iload_n (pc := 4) a 2 dX6_addSign_4 rfl rfl ?_
  refine a_sipush (pc := 5) a dX6_addSign_5 (by decide) ?_
  refine a_xsv (pc := 8) a (As := [vI p2, vI 200]) (rest := []) (fun sz => c_X6_demandBelow hinj hl0  h sz) (va_cwS 2 hts (gl_S (GL_13 _ (by decide +kernel)) (GL_13 _ (by decide +kernel)) (GL_1 _ (by decide +kernel)) (GL_13 _ (by decide +kernel))) rfl rfl rfl (by decide +kernel) ⟨Nat.le_of_ble_eq_true rfl, Nat.le_of_ble_eq_true rfl⟩) rfl rfl (Nat.le_of_ble_eq_true rfl) ⟨Nat.le_of_ble_eq_true rfl, Nat.le_of_ble_eq_true rfl⟩ dX6_addSign_8 ?_ ?_
  · rintro E cx ce q9 s9 H1 locs1 la ⟨hs9, hk⟩ hE hP hS hl h1 h2 h3
    subst s9
    exact x_pass a hno (by decide) (by decide) hk hE hP hS h1 h2 h3
  rintro s9 ⟨hs9, h9⟩
  subst s9
  replace h := h9
  clear h9
  refine a_iload_n (pc := 11) a 3 dX6_addSign_11 rfl rfl ?_
  refine a_sipush (pc := 12) a dX6_addSign_12 (by decide) ?_
  refine a_xsv (pc := 15) a (As := [vI p3, vI 200]) (rest := []) (fun sz => c_X6_demandBelow hinj hl0  h sz) (va_cwS 2 hts (gl_S (GL_13 _ (by decide +kernel)) (GL_13 _ (by decide +kernel)) (GL_1 _ (by decide +kernel)) (GL_13 _ (by decide +kernel))) rfl rfl rfl (by decide +kernel) ⟨Nat.le_of_ble_eq_true rfl, Nat.le_of_ble_eq_true rfl⟩) rfl rfl (Nat.le_of_ble_eq_true rfl) ⟨Nat.le_of_ble_eq_true rfl, Nat.le_of_ble_eq_true rfl⟩ dX6_addSign_15 ?_ ?_
  · rintro E cx ce q9 s9 H1 locs1 la ⟨hs9, hk⟩ hE hP hS hl h1 h2 h3
    subst s9
    exact x_pass a hno (by decide) (by decide) hk hE hP hS h1 h2 h3
  rintro s9 ⟨hs9, h9⟩
  subst s9
  replace h := h9
  clear h9
  refine a_iload (pc := 18) a 4 dX6_addSign_18 rfl ?_
  refine a_sipush (pc := 20) a dX6_addSign_20 (by decide) ?_
  refine a_xsv (pc := 23) a (As := [vI p4, vI 10000]) (rest := []) (fun sz => c_X6_demandBelow hinj hl0  h sz) (va_cwS 2 hts (gl_S (GL_13 _ (by decide +kernel)) (GL_13 _ (by decide +kernel)) (GL_1 _ (by decide +kernel)) (GL_13 _ (by decide +kernel))) rfl rfl rfl (by decide +kernel) ⟨Nat.le_of_ble_eq_true rfl, Nat.le_of_ble_eq_true rfl⟩) rfl rfl (Nat.le_of_ble_eq_true rfl) ⟨Nat.le_of_ble_eq_true rfl, Nat.le_of_ble_eq_true rfl⟩ dX6_addSign_23 ?_ ?_
  · rintro E cx ce q9 s9 H1 locs1 la ⟨hs9, hk⟩ hE hP hS hl h1 h2 h3
    subst s9
    exact x_pass a hno (by decide) (by decide) hk hE hP hS h1 h2 h3
  rintro s9 ⟨hs9, h9⟩
  subst s9
  replace h := h9
  clear h9
  refine a_iload (pc := 26) a 5 dX6_addSign_26 rfl ?_
  refine a_bipush (pc := 28) a dX6_addSign_28 (by decide) ?_
  refine a_xsv (pc := 30) a (As := [vI p5, vI 6]) (rest := []) (fun sz => c_X6_demandBelow hinj hl0  h sz) (va_cwS 2 hts (gl_S (GL_13 _ (by decide +kernel)) (GL_13 _ (by decide +kernel)) (GL_1 _ (by decide +kernel)) (GL_13 _ (by decide +kernel))) rfl rfl rfl (by decide +kernel) ⟨Nat.le_of_ble_eq_true rfl, Nat.le_of_ble_eq_true rfl⟩) rfl rfl (Nat.le_of_ble_eq_true rfl) ⟨Nat.le_of_ble_eq_true rfl, Nat.le_of_ble_eq_true rfl⟩ dX6_addSign_30 ?_ ?_
  · rintro E cx ce q9 s9 H1 locs1 la ⟨hs9, hk⟩ hE hP hS hl h1 h2 h3
    subst s9
    exact x_pass a hno (by decide) (by decide) hk hE hP hS h1 h2 h3
  rintro s9 ⟨hs9, h9⟩
  subst s9
  replace h := h9
  clear h9
  refine a_aload_n (pc := 33) a 0 dX6_addSign_33 rfl rfl ?_
  refine a_getR (pc := 34) a 0 0 rfl tb vc6 w2 w1 (by decide) (by decide) 1 (q := 1) rfl rfl dX6_addSign_34 ?_
  refine a_getI (pc := 37) a 5 5 rfl w3 vc3 w5 w4 (by decide) (by decide) rfl dX6_addSign_37 ?_
  refine a_bipush (pc := 40) a dX6_addSign_40 (by decide) ?_
  refine a_icmp_lt (pc := 42) a h.1 ⟨by decide, by decide⟩ dX6_addSign_42 (tgt := 55) (by decide) (fun hq => ?_) (fun hq => ?_)
  · replace h := h.2.1 hq
    clear hq
    refine a_aload_n (pc := 55) a 0 dX6_addSign_55 rfl rfl ?_
    refine a_cvv (pc := 56) a (As := []) (rest := []) tb vc6 (fun sz => c_X6_saveState hinj hl0  h sz) (cwV 0 hts (gl_V (GL_20 _ (by decide +kernel)) (GL_20 _ (by decide +kernel)) (GL_20 _ (by decide +kernel)) (GL_1 _ (by decide +kernel)) (GL_20 _ (by decide +kernel))) rfl rfl rfl (by decide +kernel) ⟨Nat.le_of_ble_eq_true rfl, Nat.le_of_ble_eq_true rfl⟩) rfl rfl (Nat.le_of_ble_eq_true rfl) ⟨Nat.le_of_ble_eq_true rfl, Nat.le_of_ble_eq_true rfl⟩ dX6_addSign_56 ?_
    clear h
    intro s1 h
    refine a_aload_n (pc := 59) a 0 dX6_addSign_59 rfl rfl ?_
    refine a_getR (pc := 60) a 0 0 rfl tb vc6 w2 w1 (by decide) (by decide) 1 (q := 1) rfl rfl dX6_addSign_60 ?_
    refine a_iload_n (pc := 63) a 1 dX6_addSign_63 rfl rfl ?_
    refine a_iload_n (pc := 64) a 2 dX6_addSign_64 rfl rfl ?_
    refine a_iload_n (pc := 65) a 3 dX6_addSign_65 rfl rfl ?_
    refine a_iload (pc := 66) a 4 dX6_addSign_66 rfl ?_
    refine a_iload (pc := 68) a 5 dX6_addSign_68 rfl ?_
    refine a_cvv (pc := 70) a (As := [vI p1, vI p2, vI p3, vI p4, vI p5]) (rest := []) w3 vc3 (fun sz => c_X3_putSign hinj hl0 w3 h sz) (cwV 5 hts (gl_V (GL_24 _ (by decide +kernel)) (GL_24 _ (by decide +kernel)) (GL_24 _ (by decide +kernel)) (GL_1 _ (by decide +kernel)) (GL_24 _ (by decide +kernel))) rfl rfl rfl (by decide +kernel) ⟨Nat.le_of_ble_eq_true rfl, Nat.le_of_ble_eq_true rfl⟩) rfl rfl (Nat.le_of_ble_eq_true rfl) ⟨Nat.le_of_ble_eq_true rfl, Nat.le_of_ble_eq_true rfl⟩ dX6_addSign_70 ?_
    clear h
    intro s2 h
    refine a_aload_n (pc := 73) a 0 dX6_addSign_73 rfl rfl ?_
    refine a_getR (pc := 74) a 0 0 rfl tb vc6 w2 w1 (by decide) (by decide) 1 (q := 1) rfl rfl dX6_addSign_74 ?_
    refine a_getI (pc := 77) a 5 5 rfl w3 vc3 w5 w4 (by decide) (by decide) rfl dX6_addSign_77 ?_
    refine a_iconst (pc := 80) a dX6_addSign_80 ?_
    refine a_isub (pc := 81) a dX6_addSign_81 ?_
    exact ex_i (pc := 82) a hr dX6_addSign_82 (by decide) (by decide) h
  · replace h := h.2.2 hq
    clear hq
    exact x_throw (pc := 45) a hno (text := "the map is full") (by decide) rfl (cx := 3) rfl (names := ["java/lang/RuntimeException", "java/lang/Exception"]) (by decide +kernel) (by decide +kernel) w6 w7 w8 (by decide +kernel) dX6_addSign_45 dX6_addSign_48 dX6_addSign_49 dX6_addSign_51 dX6_addSign_54 (Nat.le_of_ble_eq_true rfl) (Nat.le_of_ble_eq_true rfl) (Nat.le_of_ble_eq_true rfl) (Nat.le_of_ble_eq_true rfl) (Nat.le_of_ble_eq_true rfl) (Nat.le_of_ble_eq_true rfl) h

set_option maxRecDepth 100000 in
set_option maxHeartbeats 4000000 in
theorem c_X6_demandSign {l : Launch} {D : va_G} {X : XI} {ad : Nat → Nat} (hinj : adI ad) (hl0 : l.stackTraces = false) {p1 : Int}  {σ : St} {K : Prop} {X2 : Nat → Prop} (h : f_X6_demandSign p1 σ K X2) (sz : Nat) : vx_Met l yX6_demandSign (WW (.code yX6_demandSign cX6_demandSign 2 none)) { frames := 6, cells := 1, slots := 6, locals := 90 } (va_Pc [Value.ref (ad 0), vI p1] (WD D X ad σ sz)) (QV D X ad sz (fun τ => τ = σ ∧ K)) (XX D X ad sz (fun c τ => τ = σ ∧ X2 c)) 1 6 (AA ad sz) := by
  refine ax_start (cc := cX6_demandSign) (maxL := 2) (ret := none) (own := RX6) [Value.ref (ad 0), vI p1] (by decide) rfl rfl (Nat.le_of_ble_eq_true rfl) hinj hl0 ?_
  intro p e s m below meth c a hr hno hsz
  subst hsz
  have hts := a.1.2.2.2.2
  have tb : tyc 0 (10, 0) := ⟨by decide, rfl⟩
  have w1 := hts (Cond.classLink RX6 106 "java/lang/IndexOutOfBoundsException") (List.mem_cons_of_mem _ (GL_16 _ (by decide +kernel)))
  have w2 := hts (Cond.initialized "java/lang/IndexOutOfBoundsException") (List.mem_cons_of_mem _ (GL_16 _ (by decide +kernel)))
  have w3 : ∀ w ∈ (vx_atS RX6 110 "java/lang/IndexOutOfBoundsException" ["java/lang/RuntimeException", "java/lang/Exception"]), w.before _ s = true := vx_hat (L := (vx_atS RX6 110 "java/lang/IndexOutOfBoundsException" ["java/lang/RuntimeException", "java/lang/Exception"])) (B := Cond.castable "java/lang/IndexOutOfBoundsException" "java/lang/IndexOutOfBoundsException" :: sups.map (fun x => Cond.declares (Bundle.initS x))) (fun w h => hts w (List.mem_cons_of_mem _ (GT_110 w h))) (by decide +kernel) (fun w h => ex_B (va_Nw.use rfl (a.2.2.2.1.2.2.2.2.1 _ (by decide))) (fun E hE => va_Nw.use rfl (a.2.2.2.1.2.2.2.2.2.1 E hE)) w h)
  have w4 := hts (Cond.fieldLink RX6 10 "SightLegend" "map" "LSightLegend$MapState;") (List.mem_cons_of_mem _ (GL_1 _ (by decide +kernel)))
  have w5 : ∀ w ∈ u_ws RX6 TX6 8, w ∈ WW (.code yX6_demandSign cX6_demandSign 2 none) := fun w h => List.mem_cons_of_mem _ (inlX6 w h)
  have w6 : tyc 1 (7, 0) := ty_of (d := 1) (t1 := (7, 0)) (by decide +kernel) rfl tb
  have w7 := hts (Cond.fieldLink RX6 48 "SightLegend$MapState" "signCount" "I") (List.mem_cons_of_mem _ (GL_15 _ (by decide +kernel)))
  have w8 : ∀ w ∈ u_ws RX3 TX3 13, w ∈ WW (.code yX6_demandSign cX6_demandSign 2 none) := fun w h => List.mem_cons_of_mem _ (inlX3 w h)
  unfold f_X6_demandSign at h
  refine a_sub (ls1 := [(0, Value.ref (ad 0)), (1, vI p1)]) [0, 1] rfl ?_
  refine a_iload_n (pc := 0) a 1 dX6_demandSign_0 rfl rfl ?_
  refine a_if_lt (pc := 1) a h.1 dX6_demandSign_1 (tgt := 15) (by decide) (fun hq => ?_) (fun hq => ?_)
  · replace h := h.2.1 hq
    clear hq
    exact x_throwW (pc := 15) a hno (text := "there is no such sign") (by decide) rfl (cx := 1) rfl (names := ["java/lang/RuntimeException", "java/lang/Exception"]) (by decide +kernel) (by decide +kernel) w1 w2 w3 (by decide +kernel) dX6_demandSign_15 dX6_demandSign_18 dX6_demandSign_19 dX6_demandSign_22 dX6_demandSign_25 (Nat.le_of_ble_eq_true rfl) (Nat.le_of_ble_eq_true rfl) (Nat.le_of_ble_eq_true rfl) (Nat.le_of_ble_eq_true rfl) (Nat.le_of_ble_eq_true rfl) (Nat.le_of_ble_eq_true rfl) ⟨rfl, h⟩
  · replace h := h.2.2 hq
    clear hq
    refine a_iload_n (pc := 4) a 1 dX6_demandSign_4 rfl rfl ?_
    refine a_aload_n (pc := 5) a 0 dX6_demandSign_5 rfl rfl ?_
    refine a_getR (pc := 6) a 0 0 rfl tb vc6 w5 w4 (by decide) (by decide) 1 (q := 1) rfl rfl dX6_demandSign_6 ?_
    refine a_getI (pc := 9) a 5 5 rfl w6 vc3 w8 w7 (by decide) (by decide) rfl dX6_demandSign_9 ?_
    refine a_icmp_lt (pc := 12) a h.1 h.2.1 dX6_demandSign_12 (tgt := 26) (by decide) (fun hq => ?_) (fun hq => ?_)
    · replace h := h.2.2.1 hq
      clear hq
      exact ex_v (pc := 26) a hr dX6_demandSign_26 (by decide) (by decide) ⟨rfl, h⟩
    · replace h := h.2.2.2 hq
      clear hq
      exact x_throwW (pc := 15) a hno (text := "there is no such sign") (by decide) rfl (cx := 1) rfl (names := ["java/lang/RuntimeException", "java/lang/Exception"]) (by decide +kernel) (by decide +kernel) w1 w2 w3 (by decide +kernel) dX6_demandSign_15 dX6_demandSign_18 dX6_demandSign_19 dX6_demandSign_22 dX6_demandSign_25 (Nat.le_of_ble_eq_true rfl) (Nat.le_of_ble_eq_true rfl) (Nat.le_of_ble_eq_true rfl) (Nat.le_of_ble_eq_true rfl) (Nat.le_of_ble_eq_true rfl) (Nat.le_of_ble_eq_true rfl) ⟨rfl, h⟩

set_option maxRecDepth 100000 in
set_option maxHeartbeats 4000000 in
theorem c_X6_removeSign {l : Launch} {D : va_G} {X : XI} {ad : Nat → Nat} (hinj : adI ad) (hl0 : l.stackTraces = false) {p1 : Int}  {σ : St} {K : Int → St → Prop} {X2 : Nat → St → Prop} (h : f_X6_removeSign p1 σ K X2) (sz : Nat) : vx_Met l yX6_removeSign (WW (.code yX6_removeSign cX6_removeSign 2 (some .int))) { frames := 7, cells := 1, slots := 6, locals := 111 } (va_Pc [Value.ref (ad 0), vI p1] (WD D X ad σ sz)) (QI D X ad sz K) (XX D X ad sz X2) 1 6 (AA ad sz) := by
  refine ax_start (cc := cX6_removeSign) (maxL := 2) (ret := (some .int)) (own := RX6) [Value.ref (ad 0), vI p1] (by decide) rfl rfl (Nat.le_of_ble_eq_true rfl) hinj hl0 ?_
  intro p e s m below meth c a hr hno hsz
  subst hsz
  have hts := a.1.2.2.2.2
  have tb : tyc 0 (10, 0) := ⟨by decide, rfl⟩
  have w1 := hts (Cond.fieldLink RX6 10 "SightLegend" "map" "LSightLegend$MapState;") (List.mem_cons_of_mem _ (GL_1 _ (by decide +kernel)))
  have w2 : ∀ w ∈ u_ws RX6 TX6 8, w ∈ WW (.code yX6_removeSign cX6_removeSign 2 (some .int)) := fun w h => List.mem_cons_of_mem _ (inlX6 w h)
  have w3 : tyc 1 (7, 0) := ty_of (d := 1) (t1 := (7, 0)) (by decide +kernel) rfl tb
  have w4 := hts (Cond.fieldLink RX6 48 "SightLegend$MapState" "signCount" "I") (List.mem_cons_of_mem _ (GL_15 _ (by decide +kernel)))
  have w5 : ∀ w ∈ u_ws RX3 TX3 13, w ∈ WW (.code yX6_removeSign cX6_removeSign 2 (some .int)) := fun w h => List.mem_cons_of_mem _ (inlX3 w h)
  unfold f_X6_removeSign at h
  refine a_sub (ls1 := [(0, Value.ref (ad 0)), (1, vI p1)]) [0, 1] rfl ?_
  refine a_aload_n (pc := 0) a 0 dX6_removeSign_0 rfl rfl ?_
  refine a_iload_n (pc := 1) a 1 dX6_removeSign_1 rfl rfl ?_
  refine a_xvv (pc := 2) a (As := [vI p1]) (rest := []) tb vc6 (fun sz => c_X6_demandSign hinj hl0  h sz) (cwV 1 hts (gl_V (GL_16 _ (by decide +kernel)) (GL_16 _ (by decide +kernel)) (GL_16 _ (by decide +kernel)) (GL_1 _ (by decide +kernel)) (GL_17 _ (by decide +kernel))) rfl rfl rfl (by decide +kernel) ⟨Nat.le_of_ble_eq_true rfl, Nat.le_of_ble_eq_true rfl⟩) rfl rfl (Nat.le_of_ble_eq_true rfl) ⟨Nat.le_of_ble_eq_true rfl, Nat.le_of_ble_eq_true rfl⟩ dX6_removeSign_2 ?_ ?_
  · rintro E cx ce q9 s9 H1 locs1 la ⟨hs9, hk⟩ hE hP hS hl h1 h2 h3
    subst s9
    exact x_pass a hno (by decide) (by decide) hk hE hP hS h1 h2 h3
  rintro s9 ⟨hs9, h9⟩
  subst s9
  replace h := h9
  clear h9
  refine a_aload_n (pc := 5) a 0 dX6_removeSign_5 rfl rfl ?_
  refine a_cvv (pc := 6) a (As := []) (rest := []) tb vc6 (fun sz => c_X6_saveState hinj hl0  h sz) (cwV 0 hts (gl_V (GL_20 _ (by decide +kernel)) (GL_20 _ (by decide +kernel)) (GL_20 _ (by decide +kernel)) (GL_1 _ (by decide +kernel)) (GL_20 _ (by decide +kernel))) rfl rfl rfl (by decide +kernel) ⟨Nat.le_of_ble_eq_true rfl, Nat.le_of_ble_eq_true rfl⟩) rfl rfl (Nat.le_of_ble_eq_true rfl) ⟨Nat.le_of_ble_eq_true rfl, Nat.le_of_ble_eq_true rfl⟩ dX6_removeSign_6 ?_
  clear h
  intro s1 h
  refine a_aload_n (pc := 9) a 0 dX6_removeSign_9 rfl rfl ?_
  refine a_getR (pc := 10) a 0 0 rfl tb vc6 w2 w1 (by decide) (by decide) 1 (q := 1) rfl rfl dX6_removeSign_10 ?_
  refine a_iload_n (pc := 13) a 1 dX6_removeSign_13 rfl rfl ?_
  refine a_cvv (pc := 14) a (As := [vI p1]) (rest := []) w3 vc3 (fun sz => c_X3_dropSign hinj hl0 w3 h sz) (cwV 1 hts (gl_V (GL_23 _ (by decide +kernel)) (GL_23 _ (by decide +kernel)) (GL_23 _ (by decide +kernel)) (GL_1 _ (by decide +kernel)) (GL_23 _ (by decide +kernel))) rfl rfl rfl (by decide +kernel) ⟨Nat.le_of_ble_eq_true rfl, Nat.le_of_ble_eq_true rfl⟩) rfl rfl (Nat.le_of_ble_eq_true rfl) ⟨Nat.le_of_ble_eq_true rfl, Nat.le_of_ble_eq_true rfl⟩ dX6_removeSign_14 ?_
  clear h
  intro s2 h
  refine a_aload_n (pc := 17) a 0 dX6_removeSign_17 rfl rfl ?_
  refine a_getR (pc := 18) a 0 0 rfl tb vc6 w2 w1 (by decide) (by decide) 1 (q := 1) rfl rfl dX6_removeSign_18 ?_
  refine a_getI (pc := 21) a 5 5 rfl w3 vc3 w5 w4 (by decide) (by decide) rfl dX6_removeSign_21 ?_
  exact ex_i (pc := 24) a hr dX6_removeSign_24 (by decide) (by decide) h

set_option maxRecDepth 100000 in
set_option maxHeartbeats 4000000 in
theorem c_X6_moveSign {l : Launch} {D : va_G} {X : XI} {ad : Nat → Nat} (hinj : adI ad) (hl0 : l.stackTraces = false) {p1 : Int} {p2 : Int} {p3 : Int}  {σ : St} {K : Int → St → Prop} {X2 : Nat → St → Prop} (h : f_X6_moveSign p1 p2 p3 σ K X2) (sz : Nat) : vx_Met l yX6_moveSign (WW (.code yX6_moveSign cX6_moveSign 5 (some .int))) { frames := 7, cells := 3, slots := 18, locals := 111 } (va_Pc [Value.ref (ad 0), vI p1, vI p2, vI p3] (WD D X ad σ sz)) (QI D X ad sz K) (XX D X ad sz X2) 3 18 (AA ad sz) := by
  refine ax_start (cc := cX6_moveSign) (maxL := 5) (ret := (some .int)) (own := RX6) [Value.ref (ad 0), vI p1, vI p2, vI p3] (by decide) rfl rfl (Nat.le_of_ble_eq_true rfl) hinj hl0 ?_
  intro p e s m below meth c a hr hno hsz
  subst hsz
  have hts := a.1.2.2.2.2
  have tb : tyc 0 (10, 0) := ⟨by decide, rfl⟩
  have w1 := hts (Cond.fieldLink RX6 10 "SightLegend" "map" "LSightLegend$MapState;") (List.mem_cons_of_mem _ (GL_1 _ (by decide +kernel)))
  have w2 : ∀ w ∈ u_ws RX6 TX6 8, w ∈ WW (.code yX6_moveSign cX6_moveSign 5 (some .int)) := fun w h => List.mem_cons_of_mem _ (inlX6 w h)
  have w3 : tyc 1 (7, 0) := ty_of (d := 1) (t1 := (7, 0)) (by decide +kernel) rfl tb
  have w4 := hts (Cond.fieldLink RX6 72 "SightLegend$MapState" "signColumn" "[I") (List.mem_cons_of_mem _ (GL_17 _ (by decide +kernel)))
  have w5 : ∀ w ∈ u_ws RX3 TX3 13, w ∈ WW (.code yX6_moveSign cX6_moveSign 5 (some .int)) := fun w h => List.mem_cons_of_mem _ (inlX3 w h)
  have w6 : tyc 3 (0, 40) := ty_of (d := 2) (t1 := (0, 40)) (by decide +kernel) rfl w3
  have w7 := hts (Cond.fieldLink RX6 76 "SightLegend$MapState" "signRow" "[I") (List.mem_cons_of_mem _ (GL_17 _ (by decide +kernel)))
  have w8 : tyc 4 (0, 40) := ty_of (d := 3) (t1 := (0, 40)) (by decide +kernel) rfl w3
  unfold f_X6_moveSign at h
  refine a_sub (ls1 := [(0, Value.ref (ad 0)), (1, vI p1), (2, vI p2), (3, vI p3)]) [0, 1, 2, 3] rfl ?_
  refine a_aload_n (pc := 0) a 0 dX6_moveSign_0 rfl rfl ?_
  refine a_iload_n (pc := 1) a 1 dX6_moveSign_1 rfl rfl ?_
  refine a_xvv (pc := 2) a (As := [vI p1]) (rest := []) tb vc6 (fun sz => c_X6_demandSign hinj hl0  h sz) (cwV 1 hts (gl_V (GL_16 _ (by decide +kernel)) (GL_16 _ (by decide +kernel)) (GL_16 _ (by decide +kernel)) (GL_1 _ (by decide +kernel)) (GL_17 _ (by decide +kernel))) rfl rfl rfl (by decide +kernel) ⟨Nat.le_of_ble_eq_true rfl, Nat.le_of_ble_eq_true rfl⟩) rfl rfl (Nat.le_of_ble_eq_true rfl) ⟨Nat.le_of_ble_eq_true rfl, Nat.le_of_ble_eq_true rfl⟩ dX6_moveSign_2 ?_ ?_
  · rintro E cx ce q9 s9 H1 locs1 la ⟨hs9, hk⟩ hE hP hS hl h1 h2 h3
    subst s9
    exact x_pass a hno (by decide) (by decide) hk hE hP hS h1 h2 h3
  rintro s9 ⟨hs9, h9⟩
  subst s9
  replace h := h9
  clear h9
  refine a_iload_n (pc := 5) a 2 dX6_moveSign_5 rfl rfl ?_
  refine a_sipush (pc := 6) a dX6_moveSign_6 (by decide) ?_
  refine a_xsv (pc := 9) a (As := [vI p2, vI 200]) (rest := []) (fun sz => c_X6_demandBelow hinj hl0  h sz) (va_cwS 2 hts (gl_S (GL_13 _ (by decide +kernel)) (GL_13 _ (by decide +kernel)) (GL_1 _ (by decide +kernel)) (GL_13 _ (by decide +kernel))) rfl rfl rfl (by decide +kernel) ⟨Nat.le_of_ble_eq_true rfl, Nat.le_of_ble_eq_true rfl⟩) rfl rfl (Nat.le_of_ble_eq_true rfl) ⟨Nat.le_of_ble_eq_true rfl, Nat.le_of_ble_eq_true rfl⟩ dX6_moveSign_9 ?_ ?_
  · rintro E cx ce q9 s9 H1 locs1 la ⟨hs9, hk⟩ hE hP hS hl h1 h2 h3
    subst s9
    exact x_pass a hno (by decide) (by decide) hk hE hP hS h1 h2 h3
  rintro s9 ⟨hs9, h9⟩
  subst s9
  replace h := h9
  clear h9
  refine a_iload_n (pc := 12) a 3 dX6_moveSign_12 rfl rfl ?_
  refine a_sipush (pc := 13) a dX6_moveSign_13 (by decide) ?_
  refine a_xsv (pc := 16) a (As := [vI p3, vI 200]) (rest := []) (fun sz => c_X6_demandBelow hinj hl0  h sz) (va_cwS 2 hts (gl_S (GL_13 _ (by decide +kernel)) (GL_13 _ (by decide +kernel)) (GL_1 _ (by decide +kernel)) (GL_13 _ (by decide +kernel))) rfl rfl rfl (by decide +kernel) ⟨Nat.le_of_ble_eq_true rfl, Nat.le_of_ble_eq_true rfl⟩) rfl rfl (Nat.le_of_ble_eq_true rfl) ⟨Nat.le_of_ble_eq_true rfl, Nat.le_of_ble_eq_true rfl⟩ dX6_moveSign_16 ?_ ?_
  · rintro E cx ce q9 s9 H1 locs1 la ⟨hs9, hk⟩ hE hP hS hl h1 h2 h3
    subst s9
    exact x_pass a hno (by decide) (by decide) hk hE hP hS h1 h2 h3
  rintro s9 ⟨hs9, h9⟩
  subst s9
  replace h := h9
  clear h9
  refine a_aload_n (pc := 19) a 0 dX6_moveSign_19 rfl rfl ?_
  refine a_cvv (pc := 20) a (As := []) (rest := []) tb vc6 (fun sz => c_X6_saveState hinj hl0  h sz) (cwV 0 hts (gl_V (GL_20 _ (by decide +kernel)) (GL_20 _ (by decide +kernel)) (GL_20 _ (by decide +kernel)) (GL_1 _ (by decide +kernel)) (GL_20 _ (by decide +kernel))) rfl rfl rfl (by decide +kernel) ⟨Nat.le_of_ble_eq_true rfl, Nat.le_of_ble_eq_true rfl⟩) rfl rfl (Nat.le_of_ble_eq_true rfl) ⟨Nat.le_of_ble_eq_true rfl, Nat.le_of_ble_eq_true rfl⟩ dX6_moveSign_20 ?_
  clear h
  intro s1 h
  refine a_aload_n (pc := 23) a 0 dX6_moveSign_23 rfl rfl ?_
  refine a_getR (pc := 24) a 0 0 rfl tb vc6 w2 w1 (by decide) (by decide) 1 (q := 1) rfl rfl dX6_moveSign_24 ?_
  refine a_getR (pc := 27) a 1 1 rfl w3 vc3 w5 w4 (by decide) (by decide) 2 (q := 3) rfl rfl dX6_moveSign_27 ?_
  refine a_iload_n (pc := 30) a 1 dX6_moveSign_30 rfl rfl ?_
  refine a_iald (pc := 31) a (tw hinj w6) (by decide) h.1 dX6_moveSign_31 ?_
  replace h := h.2
  refine a_nm (fun x2 hx => ?_)
  replace h := h x2 hx
  clear hx
  refine a_istore (pc := 32) a (ls1 := [(4, vI x2), (0, Value.ref (ad 0)), (1, vI p1), (2, vI p2), (3, vI p3)]) dX6_moveSign_32 (by decide) rfl ?_
  refine a_aload_n (pc := 34) a 1 dX6_moveSign_34 rfl rfl ?_
  refine a_getR (pc := 35) a 0 0 rfl tb vc6 w2 w1 (by decide) (by decide) 1 (q := 1) rfl rfl dX6_moveSign_35 ?_
  refine a_getR (pc := 38) a 1 1 rfl w3 vc3 w5 w4 (by decide) (by decide) 2 (q := 3) rfl rfl dX6_moveSign_38 ?_
  refine a_iload_n (pc := 41) a 2 dX6_moveSign_41 rfl rfl ?_
  refine a_iload_n (pc := 42) a 3 dX6_moveSign_42 rfl rfl ?_
  refine a_iast (pc := 43) a (tw hinj w6) (by decide) h.1 dX6_moveSign_43 ?_
  replace h := h.2
  refine a_nmS (fun s3 hx => ?_)
  replace h := h s3 hx
  clear hx
  refine a_aload_n (pc := 44) a 1 dX6_moveSign_44 rfl rfl ?_
  refine a_getR (pc := 45) a 0 0 rfl tb vc6 w2 w1 (by decide) (by decide) 1 (q := 1) rfl rfl dX6_moveSign_45 ?_
  refine a_getR (pc := 48) a 2 2 rfl w3 vc3 w5 w7 (by decide) (by decide) 3 (q := 4) rfl rfl dX6_moveSign_48 ?_
  refine a_iload_n (pc := 51) a 2 dX6_moveSign_51 rfl rfl ?_
  refine a_iload_n (pc := 52) a 4 dX6_moveSign_52 rfl rfl ?_
  refine a_iast (pc := 53) a (tw hinj w8) (by decide) h.1 dX6_moveSign_53 ?_
  replace h := h.2
  refine a_nmS (fun s4 hx => ?_)
  replace h := h s4 hx
  clear hx
  refine a_iload (pc := 54) a 0 dX6_moveSign_54 rfl ?_
  exact ex_i (pc := 56) a hr dX6_moveSign_56 (by decide) (by decide) h

set_option maxRecDepth 100000 in
set_option maxHeartbeats 4000000 in
theorem c_X6_demandSpan {l : Launch} {D : va_G} {X : XI} {ad : Nat → Nat} (hinj : adI ad) (hl0 : l.stackTraces = false) {p1 : Int}  {σ : St} {K : Prop} {X2 : Nat → Prop} (h : f_X6_demandSpan p1 σ K X2) (sz : Nat) : vx_Met l yX6_demandSpan (WW (.code yX6_demandSpan cX6_demandSpan 1 none)) { frames := 6, cells := 1, slots := 6, locals := 90 } (va_Pc [vI p1] (WD D X ad σ sz)) (QV D X ad sz (fun τ => τ = σ ∧ K)) (XX D X ad sz (fun c τ => τ = σ ∧ X2 c)) 1 6 (AA ad sz) := by
  refine ax_start (cc := cX6_demandSpan) (maxL := 1) (ret := none) (own := RX6) [vI p1] (by decide) rfl rfl (Nat.le_of_ble_eq_true rfl) hinj hl0 ?_
  intro p e s m below meth c a hr hno hsz
  subst hsz
  have hts := a.1.2.2.2.2
  have w1 := hts (Cond.classLink RX6 92 "java/lang/IllegalArgumentException") (List.mem_cons_of_mem _ (GL_14 _ (by decide +kernel)))
  have w2 := hts (Cond.initialized "java/lang/IllegalArgumentException") (List.mem_cons_of_mem _ (GL_14 _ (by decide +kernel)))
  have w3 : ∀ w ∈ (vx_atS RX6 96 "java/lang/IllegalArgumentException" ["java/lang/RuntimeException", "java/lang/Exception"]), w.before _ s = true := vx_hat (L := (vx_atS RX6 96 "java/lang/IllegalArgumentException" ["java/lang/RuntimeException", "java/lang/Exception"])) (B := Cond.castable "java/lang/IllegalArgumentException" "java/lang/IllegalArgumentException" :: sups.map (fun x => Cond.declares (Bundle.initS x))) (fun w h => hts w (List.mem_cons_of_mem _ (GT_96 w h))) (by decide +kernel) (fun w h => ex_B (va_Nw.use rfl (a.2.2.2.1.2.2.2.2.1 _ (by decide))) (fun E hE => va_Nw.use rfl (a.2.2.2.1.2.2.2.2.2.1 E hE)) w h)
  unfold f_X6_demandSpan at h
  refine a_sub (ls1 := [(0, vI p1)]) [0] rfl ?_
  refine a_iload_n (pc := 0) a 0 dX6_demandSpan_0 rfl rfl ?_
  refine a_bipush (pc := 1) a dX6_demandSpan_1 (by decide) ?_
  refine a_icmp_lt (pc := 3) a h.1 ⟨by decide, by decide⟩ dX6_demandSpan_3 (tgt := 13) (by decide) (fun hq => ?_) (fun hq => ?_)
  · replace h := h.2.1 hq
    clear hq
    exact x_throwW (pc := 13) a hno (text := "the window has no such size") (by decide) rfl (cx := 2) rfl (names := ["java/lang/RuntimeException", "java/lang/Exception"]) (by decide +kernel) (by decide +kernel) w1 w2 w3 (by decide +kernel) dX6_demandSpan_13 dX6_demandSpan_16 dX6_demandSpan_17 dX6_demandSpan_20 dX6_demandSpan_23 (Nat.le_of_ble_eq_true rfl) (Nat.le_of_ble_eq_true rfl) (Nat.le_of_ble_eq_true rfl) (Nat.le_of_ble_eq_true rfl) (Nat.le_of_ble_eq_true rfl) (Nat.le_of_ble_eq_true rfl) ⟨rfl, h⟩
  · replace h := h.2.2 hq
    clear hq
    refine a_iload_n (pc := 6) a 0 dX6_demandSpan_6 rfl rfl ?_
    refine a_sipush (pc := 7) a dX6_demandSpan_7 (by decide) ?_
    refine a_icmp_le (pc := 10) a h.1 ⟨by decide, by decide⟩ dX6_demandSpan_10 (tgt := 24) (by decide) (fun hq => ?_) (fun hq => ?_)
    · replace h := h.2.1 hq
      clear hq
      exact ex_v (pc := 24) a hr dX6_demandSpan_24 (by decide) (by decide) ⟨rfl, h⟩
    · replace h := h.2.2 hq
      clear hq
      exact x_throwW (pc := 13) a hno (text := "the window has no such size") (by decide) rfl (cx := 2) rfl (names := ["java/lang/RuntimeException", "java/lang/Exception"]) (by decide +kernel) (by decide +kernel) w1 w2 w3 (by decide +kernel) dX6_demandSpan_13 dX6_demandSpan_16 dX6_demandSpan_17 dX6_demandSpan_20 dX6_demandSpan_23 (Nat.le_of_ble_eq_true rfl) (Nat.le_of_ble_eq_true rfl) (Nat.le_of_ble_eq_true rfl) (Nat.le_of_ble_eq_true rfl) (Nat.le_of_ble_eq_true rfl) (Nat.le_of_ble_eq_true rfl) ⟨rfl, h⟩

set_option maxRecDepth 100000 in
set_option maxHeartbeats 4000000 in
theorem c_X6_setWindow {l : Launch} {D : va_G} {X : XI} {ad : Nat → Nat} (hinj : adI ad) (hl0 : l.stackTraces = false) {p1 : Int} {p2 : Int} {p3 : Int} {p4 : Int} {p5 : Int}  {σ : St} {K : Int → St → Prop} {X2 : Nat → St → Prop} (h : f_X6_setWindow p1 p2 p3 p4 p5 σ K X2) (sz : Nat) : vx_Met l yX6_setWindow (WW (.code yX6_setWindow cX6_setWindow 6 (some .int))) { frames := 7, cells := 5, slots := 30, locals := 111 } (va_Pc [Value.ref (ad 0), vI p1, vI p2, vI p3, vI p4, vI p5] (WD D X ad σ sz)) (QI D X ad sz K) (XX D X ad sz X2) 5 30 (AA ad sz) := by
  refine ax_start (cc := cX6_setWindow) (maxL := 6) (ret := (some .int)) (own := RX6) [Value.ref (ad 0), vI p1, vI p2, vI p3, vI p4, vI p5] (by decide) rfl rfl (Nat.le_of_ble_eq_true rfl) hinj hl0 ?_
  intro p e s m below meth c a hr hno hsz
  subst hsz
  have hts := a.1.2.2.2.2
  have tb : tyc 0 (10, 0) := ⟨by decide, rfl⟩
  have w1 := hts (Cond.fieldLink RX6 10 "SightLegend" "map" "LSightLegend$MapState;") (List.mem_cons_of_mem _ (GL_1 _ (by decide +kernel)))
  have w2 : ∀ w ∈ u_ws RX6 TX6 8, w ∈ WW (.code yX6_setWindow cX6_setWindow 6 (some .int)) := fun w h => List.mem_cons_of_mem _ (inlX6 w h)
  have w3 : tyc 1 (7, 0) := ty_of (d := 1) (t1 := (7, 0)) (by decide +kernel) rfl tb
  have w4 := hts (Cond.fieldLink RX6 82 "SightLegend$MapState" "window" "[I") (List.mem_cons_of_mem _ (GL_15 _ (by decide +kernel)))
  have w5 : ∀ w ∈ u_ws RX3 TX3 13, w ∈ WW (.code yX6_setWindow cX6_setWindow 6 (some .int)) := fun w h => List.mem_cons_of_mem _ (inlX3 w h)
  have w6 : tyc 12 (0, 5) := ty_of (d := 11) (t1 := (0, 5)) (by decide +kernel) rfl w3
  unfold f_X6_setWindow at h
  refine a_sub (ls1 := [(0, Value.ref (ad 0)), (1, vI p1), (2, vI p2), (3, vI p3), (4, vI p4), (5, vI p5)]) [0, 1, 2, 3, 4, 5] rfl ?_
  refine a_iload_n (pc := 0) a 1 dX6_setWindow_0 rfl rfl ?_
  refine a_sipush (pc := 1) a dX6_setWindow_1 (by decide) ?_
  refine a_xsv (pc := 4) a (As := [vI p1, vI 200]) (rest := []) (fun sz => c_X6_demandBelow hinj hl0  h sz) (va_cwS 2 hts (gl_S (GL_13 _ (by decide +kernel)) (GL_13 _ (by decide +kernel)) (GL_1 _ (by decide +kernel)) (GL_13 _ (by decide +kernel))) rfl rfl rfl (by decide +kernel) ⟨Nat.le_of_ble_eq_true rfl, Nat.le_of_ble_eq_true rfl⟩) rfl rfl (Nat.le_of_ble_eq_true rfl) ⟨Nat.le_of_ble_eq_true rfl, Nat.le_of_ble_eq_true rfl⟩ dX6_setWindow_4 ?_ ?_
  · rintro E cx ce q9 s9 H1 locs1 la ⟨hs9, hk⟩ hE hP hS hl h1 h2 h3
    subst s9
    exact x_pass a hno (by decide) (by decide) hk hE hP hS h1 h2 h3
  rintro s9 ⟨hs9, h9⟩
  subst s9
  replace h := h9
  clear h9
  refine a_iload_n (pc := 7) a 2 dX6_setWindow_7 rfl rfl ?_
  refine a_sipush (pc := 8) a dX6_setWindow_8 (by decide) ?_
  refine a_xsv (pc := 11) a (As := [vI p2, vI 200]) (rest := []) (fun sz => c_X6_demandBelow hinj hl0  h sz) (va_cwS 2 hts (gl_S (GL_13 _ (by decide +kernel)) (GL_13 _ (by decide +kernel)) (GL_1 _ (by decide +kernel)) (GL_13 _ (by decide +kernel))) rfl rfl rfl (by decide +kernel) ⟨Nat.le_of_ble_eq_true rfl, Nat.le_of_ble_eq_true rfl⟩) rfl rfl (Nat.le_of_ble_eq_true rfl) ⟨Nat.le_of_ble_eq_true rfl, Nat.le_of_ble_eq_true rfl⟩ dX6_setWindow_11 ?_ ?_
  · rintro E cx ce q9 s9 H1 locs1 la ⟨hs9, hk⟩ hE hP hS hl h1 h2 h3
    subst s9
    exact x_pass a hno (by decide) (by decide) hk hE hP hS h1 h2 h3
  rintro s9 ⟨hs9, h9⟩
  subst s9
  replace h := h9
  clear h9
  refine a_iload_n (pc := 14) a 3 dX6_setWindow_14 rfl rfl ?_
  refine a_xsv (pc := 15) a (As := [vI p3]) (rest := []) (fun sz => c_X6_demandSpan hinj hl0  h sz) (va_cwS 1 hts (gl_S (GL_19 _ (by decide +kernel)) (GL_20 _ (by decide +kernel)) (GL_1 _ (by decide +kernel)) (GL_20 _ (by decide +kernel))) rfl rfl rfl (by decide +kernel) ⟨Nat.le_of_ble_eq_true rfl, Nat.le_of_ble_eq_true rfl⟩) rfl rfl (Nat.le_of_ble_eq_true rfl) ⟨Nat.le_of_ble_eq_true rfl, Nat.le_of_ble_eq_true rfl⟩ dX6_setWindow_15 ?_ ?_
  · rintro E cx ce q9 s9 H1 locs1 la ⟨hs9, hk⟩ hE hP hS hl h1 h2 h3
    subst s9
    exact x_pass a hno (by decide) (by decide) hk hE hP hS h1 h2 h3
  rintro s9 ⟨hs9, h9⟩
  subst s9
  replace h := h9
  clear h9
  refine a_iload (pc := 18) a 4 dX6_setWindow_18 rfl ?_
  refine a_xsv (pc := 20) a (As := [vI p4]) (rest := []) (fun sz => c_X6_demandSpan hinj hl0  h sz) (va_cwS 1 hts (gl_S (GL_19 _ (by decide +kernel)) (GL_20 _ (by decide +kernel)) (GL_1 _ (by decide +kernel)) (GL_20 _ (by decide +kernel))) rfl rfl rfl (by decide +kernel) ⟨Nat.le_of_ble_eq_true rfl, Nat.le_of_ble_eq_true rfl⟩) rfl rfl (Nat.le_of_ble_eq_true rfl) ⟨Nat.le_of_ble_eq_true rfl, Nat.le_of_ble_eq_true rfl⟩ dX6_setWindow_20 ?_ ?_
  · rintro E cx ce q9 s9 H1 locs1 la ⟨hs9, hk⟩ hE hP hS hl h1 h2 h3
    subst s9
    exact x_pass a hno (by decide) (by decide) hk hE hP hS h1 h2 h3
  rintro s9 ⟨hs9, h9⟩
  subst s9
  replace h := h9
  clear h9
  refine a_iload (pc := 23) a 5 dX6_setWindow_23 rfl ?_
  refine a_bipush (pc := 25) a dX6_setWindow_25 (by decide) ?_
  refine a_xsv (pc := 27) a (As := [vI p5, vI 6]) (rest := []) (fun sz => c_X6_demandBelow hinj hl0  h sz) (va_cwS 2 hts (gl_S (GL_13 _ (by decide +kernel)) (GL_13 _ (by decide +kernel)) (GL_1 _ (by decide +kernel)) (GL_13 _ (by decide +kernel))) rfl rfl rfl (by decide +kernel) ⟨Nat.le_of_ble_eq_true rfl, Nat.le_of_ble_eq_true rfl⟩) rfl rfl (Nat.le_of_ble_eq_true rfl) ⟨Nat.le_of_ble_eq_true rfl, Nat.le_of_ble_eq_true rfl⟩ dX6_setWindow_27 ?_ ?_
  · rintro E cx ce q9 s9 H1 locs1 la ⟨hs9, hk⟩ hE hP hS hl h1 h2 h3
    subst s9
    exact x_pass a hno (by decide) (by decide) hk hE hP hS h1 h2 h3
  rintro s9 ⟨hs9, h9⟩
  subst s9
  replace h := h9
  clear h9
  refine a_aload_n (pc := 30) a 0 dX6_setWindow_30 rfl rfl ?_
  refine a_cvv (pc := 31) a (As := []) (rest := []) tb vc6 (fun sz => c_X6_saveState hinj hl0  h sz) (cwV 0 hts (gl_V (GL_20 _ (by decide +kernel)) (GL_20 _ (by decide +kernel)) (GL_20 _ (by decide +kernel)) (GL_1 _ (by decide +kernel)) (GL_20 _ (by decide +kernel))) rfl rfl rfl (by decide +kernel) ⟨Nat.le_of_ble_eq_true rfl, Nat.le_of_ble_eq_true rfl⟩) rfl rfl (Nat.le_of_ble_eq_true rfl) ⟨Nat.le_of_ble_eq_true rfl, Nat.le_of_ble_eq_true rfl⟩ dX6_setWindow_31 ?_
  clear h
  intro s1 h
  refine a_aload_n (pc := 34) a 0 dX6_setWindow_34 rfl rfl ?_
  refine a_getR (pc := 35) a 0 0 rfl tb vc6 w2 w1 (by decide) (by decide) 1 (q := 1) rfl rfl dX6_setWindow_35 ?_
  refine a_getR (pc := 38) a 11 11 rfl w3 vc3 w5 w4 (by decide) (by decide) 11 (q := 12) rfl rfl dX6_setWindow_38 ?_
  refine a_iconst (pc := 41) a dX6_setWindow_41 ?_
  refine a_iload_n (pc := 42) a 1 dX6_setWindow_42 rfl rfl ?_
  refine a_iast (pc := 43) a (tw hinj w6) (by decide) (by decide) dX6_setWindow_43 ?_
  refine a_nmS (fun s2 hx => ?_)
  replace h := h s2 hx
  clear hx
  refine a_aload_n (pc := 44) a 0 dX6_setWindow_44 rfl rfl ?_
  refine a_getR (pc := 45) a 0 0 rfl tb vc6 w2 w1 (by decide) (by decide) 1 (q := 1) rfl rfl dX6_setWindow_45 ?_
  refine a_getR (pc := 48) a 11 11 rfl w3 vc3 w5 w4 (by decide) (by decide) 11 (q := 12) rfl rfl dX6_setWindow_48 ?_
  refine a_iconst (pc := 51) a dX6_setWindow_51 ?_
  refine a_iload_n (pc := 52) a 2 dX6_setWindow_52 rfl rfl ?_
  refine a_iast (pc := 53) a (tw hinj w6) (by decide) (by decide) dX6_setWindow_53 ?_
  refine a_nmS (fun s3 hx => ?_)
  replace h := h s3 hx
  clear hx
  refine a_aload_n (pc := 54) a 0 dX6_setWindow_54 rfl rfl ?_
  refine a_getR (pc := 55) a 0 0 rfl tb vc6 w2 w1 (by decide) (by decide) 1 (q := 1) rfl rfl dX6_setWindow_55 ?_
  refine a_getR (pc := 58) a 11 11 rfl w3 vc3 w5 w4 (by decide) (by decide) 11 (q := 12) rfl rfl dX6_setWindow_58 ?_
  refine a_iconst (pc := 61) a dX6_setWindow_61 ?_
  refine a_iload_n (pc := 62) a 3 dX6_setWindow_62 rfl rfl ?_
  refine a_iast (pc := 63) a (tw hinj w6) (by decide) (by decide) dX6_setWindow_63 ?_
  refine a_nmS (fun s4 hx => ?_)
  replace h := h s4 hx
  clear hx
  refine a_aload_n (pc := 64) a 0 dX6_setWindow_64 rfl rfl ?_
  refine a_getR (pc := 65) a 0 0 rfl tb vc6 w2 w1 (by decide) (by decide) 1 (q := 1) rfl rfl dX6_setWindow_65 ?_
  refine a_getR (pc := 68) a 11 11 rfl w3 vc3 w5 w4 (by decide) (by decide) 11 (q := 12) rfl rfl dX6_setWindow_68 ?_
  refine a_iconst (pc := 71) a dX6_setWindow_71 ?_
  refine a_iload (pc := 72) a 4 dX6_setWindow_72 rfl ?_
  refine a_iast (pc := 74) a (tw hinj w6) (by decide) (by decide) dX6_setWindow_74 ?_
  refine a_nmS (fun s5 hx => ?_)
  replace h := h s5 hx
  clear hx
  refine a_aload_n (pc := 75) a 0 dX6_setWindow_75 rfl rfl ?_
  refine a_getR (pc := 76) a 0 0 rfl tb vc6 w2 w1 (by decide) (by decide) 1 (q := 1) rfl rfl dX6_setWindow_76 ?_
  refine a_getR (pc := 79) a 11 11 rfl w3 vc3 w5 w4 (by decide) (by decide) 11 (q := 12) rfl rfl dX6_setWindow_79 ?_
  refine a_iconst (pc := 82) a dX6_setWindow_82 ?_
  refine a_iload (pc := 83) a 5 dX6_setWindow_83 rfl ?_
  refine a_iast (pc := 85) a (tw hinj w6) (by decide) (by decide) dX6_setWindow_85 ?_
  refine a_nmS (fun s6 hx => ?_)
  replace h := h s6 hx
  clear hx
  refine a_aload_n (pc := 86) a 0 dX6_setWindow_86 rfl rfl ?_
  refine a_getR (pc := 87) a 0 0 rfl tb vc6 w2 w1 (by decide) (by decide) 1 (q := 1) rfl rfl dX6_setWindow_87 ?_
  refine a_cvi (pc := 90) a (As := []) (rest := []) w3 vc3 (fun sz => c_X3_countShown hinj hl0 w3 h sz) (cwV 0 hts (gl_V (GL_20 _ (by decide +kernel)) (GL_20 _ (by decide +kernel)) (GL_21 _ (by decide +kernel)) (GL_1 _ (by decide +kernel)) (GL_21 _ (by decide +kernel))) rfl rfl rfl (by decide +kernel) ⟨Nat.le_of_ble_eq_true rfl, Nat.le_of_ble_eq_true rfl⟩) rfl rfl (Nat.le_of_ble_eq_true rfl) ⟨Nat.le_of_ble_eq_true rfl, Nat.le_of_ble_eq_true rfl⟩ dX6_setWindow_90 ?_
  rintro x7 s9 ⟨hs9, h9⟩
  subst s9
  replace h := h9
  clear h9
  exact ex_i (pc := 93) a hr dX6_setWindow_93 (by decide) (by decide) h

set_option maxRecDepth 100000 in
set_option maxHeartbeats 4000000 in
theorem c_X6_set {l : Launch} {D : va_G} {X : XI} {ad : Nat → Nat} (hinj : adI ad) (hl0 : l.stackTraces = false) {p1 : Int} {p2 : Int}  {σ : St} {K : Int → St → Prop} {X2 : Nat → St → Prop} (h : f_X6_set p1 p2 σ K X2) (sz : Nat) : vx_Met l yX6_set (WW (.code yX6_set cX6_set 4 (some .int))) { frames := 7, cells := 2, slots := 12, locals := 111 } (va_Pc [Value.ref (ad 0), vI p1, vI p2] (WD D X ad σ sz)) (QI D X ad sz K) (XX D X ad sz X2) 2 12 (AA ad sz) := by
  refine ax_start (cc := cX6_set) (maxL := 4) (ret := (some .int)) (own := RX6) [Value.ref (ad 0), vI p1, vI p2] (by decide) rfl rfl (Nat.le_of_ble_eq_true rfl) hinj hl0 ?_
  intro p e s m below meth c a hr hno hsz
  subst hsz
  have hts := a.1.2.2.2.2
  have tb : tyc 0 (10, 0) := ⟨by decide, rfl⟩
  obtain ⟨ht, hz1, hz2⟩ := a.2.2.2.1.2.2.1
  have w1 := hts (Cond.classLink RX6 92 "java/lang/IllegalArgumentException") (List.mem_cons_of_mem _ (GL_14 _ (by decide +kernel)))
  have w2 := hts (Cond.initialized "java/lang/IllegalArgumentException") (List.mem_cons_of_mem _ (GL_14 _ (by decide +kernel)))
  have w3 : ∀ w ∈ (vx_atS RX6 96 "java/lang/IllegalArgumentException" ["java/lang/RuntimeException", "java/lang/Exception"]), w.before _ s = true := vx_hat (L := (vx_atS RX6 96 "java/lang/IllegalArgumentException" ["java/lang/RuntimeException", "java/lang/Exception"])) (B := Cond.castable "java/lang/IllegalArgumentException" "java/lang/IllegalArgumentException" :: sups.map (fun x => Cond.declares (Bundle.initS x))) (fun w h => hts w (List.mem_cons_of_mem _ (GT_96 w h))) (by decide +kernel) (fun w h => ex_B (va_Nw.use rfl (a.2.2.2.1.2.2.2.2.1 _ (by decide))) (fun E hE => va_Nw.use rfl (a.2.2.2.1.2.2.2.2.2.1 E hE)) w h)
  have w4 := hts (Cond.fieldLink RX6 89 "SightLegend" "HIGHEST_SETTING" "[I") (List.mem_cons_of_mem _ (GL_21 _ (by decide +kernel)))
  have w5 := hts (Cond.fieldLink RX6 10 "SightLegend" "map" "LSightLegend$MapState;") (List.mem_cons_of_mem _ (GL_1 _ (by decide +kernel)))
  have w6 : ∀ w ∈ u_ws RX6 TX6 8, w ∈ WW (.code yX6_set cX6_set 4 (some .int)) := fun w h => List.mem_cons_of_mem _ (inlX6 w h)
  have w7 : tyc 1 (7, 0) := ty_of (d := 1) (t1 := (7, 0)) (by decide +kernel) rfl tb
  have w8 := hts (Cond.fieldLink RX6 97 "SightLegend$MapState" "settings" "[I") (List.mem_cons_of_mem _ (GL_15 _ (by decide +kernel)))
  have w9 : ∀ w ∈ u_ws RX3 TX3 13, w ∈ WW (.code yX6_set cX6_set 4 (some .int)) := fun w h => List.mem_cons_of_mem _ (inlX3 w h)
  have w10 : tyc 13 (0, 4) := ty_of (d := 12) (t1 := (0, 4)) (by decide +kernel) rfl w7
  unfold f_X6_set at h
  refine a_sub (ls1 := [(0, Value.ref (ad 0)), (1, vI p1), (2, vI p2)]) [0, 1, 2] rfl ?_
  refine a_iload_n (pc := 0) a 1 dX6_set_0 rfl rfl ?_
  refine a_iconst (pc := 1) a dX6_set_1 ?_
  refine a_xsv (pc := 2) a (As := [vI p1, vI 4]) (rest := []) (fun sz => c_X6_demandBelow hinj hl0  h sz) (va_cwS 2 hts (gl_S (GL_13 _ (by decide +kernel)) (GL_13 _ (by decide +kernel)) (GL_1 _ (by decide +kernel)) (GL_13 _ (by decide +kernel))) rfl rfl rfl (by decide +kernel) ⟨Nat.le_of_ble_eq_true rfl, Nat.le_of_ble_eq_true rfl⟩) rfl rfl (Nat.le_of_ble_eq_true rfl) ⟨Nat.le_of_ble_eq_true rfl, Nat.le_of_ble_eq_true rfl⟩ dX6_set_2 ?_ ?_
  · rintro E cx ce q9 s9 H1 locs1 la ⟨hs9, hk⟩ hE hP hS hl h1 h2 h3
    subst s9
    exact x_pass a hno (by decide) (by decide) hk hE hP hS h1 h2 h3
  rintro s9 ⟨hs9, h9⟩
  subst s9
  replace h := h9
  clear h9
  refine a_iload_n (pc := 5) a 2 dX6_set_5 rfl rfl ?_
  refine a_iconst (pc := 6) a dX6_set_6 ?_
  refine a_icmp_lt (pc := 7) a h.1 ⟨by decide, by decide⟩ dX6_set_7 (tgt := 19) (by decide) (fun hq => ?_) (fun hq => ?_)
  · replace h := h.2.1 hq
    clear hq
    exact x_throw (pc := 19) a hno (text := "the setting is out of its range") (by decide) rfl (cx := 2) rfl (names := ["java/lang/RuntimeException", "java/lang/Exception"]) (by decide +kernel) (by decide +kernel) w1 w2 w3 (by decide +kernel) dX6_set_19 dX6_set_22 dX6_set_23 dX6_set_25 dX6_set_28 (Nat.le_of_ble_eq_true rfl) (Nat.le_of_ble_eq_true rfl) (Nat.le_of_ble_eq_true rfl) (Nat.le_of_ble_eq_true rfl) (Nat.le_of_ble_eq_true rfl) (Nat.le_of_ble_eq_true rfl) h
  · replace h := h.2.2 hq
    clear hq
    refine a_iload_n (pc := 10) a 2 dX6_set_10 rfl rfl ?_
    refine a_gets (pc := 11) a w4 hz1 dX6_set_11 ?_
    refine a_iload_n (pc := 14) a 1 dX6_set_14 rfl rfl ?_
    refine a_ti (pc := 15) a hz2 h.1 dX6_set_15 ?_
    replace h := h.2
    refine a_icmp_le (pc := 16) a h.1 h.2.1 dX6_set_16 (tgt := 29) (by decide) (fun hq => ?_) (fun hq => ?_)
    · replace h := h.2.2.1 hq
      clear hq
      refine a_aload_n (pc := 29) a 0 dX6_set_29 rfl rfl ?_
      refine a_cvv (pc := 30) a (As := []) (rest := []) tb vc6 (fun sz => c_X6_saveState hinj hl0  h sz) (cwV 0 hts (gl_V (GL_20 _ (by decide +kernel)) (GL_20 _ (by decide +kernel)) (GL_20 _ (by decide +kernel)) (GL_1 _ (by decide +kernel)) (GL_20 _ (by decide +kernel))) rfl rfl rfl (by decide +kernel) ⟨Nat.le_of_ble_eq_true rfl, Nat.le_of_ble_eq_true rfl⟩) rfl rfl (Nat.le_of_ble_eq_true rfl) ⟨Nat.le_of_ble_eq_true rfl, Nat.le_of_ble_eq_true rfl⟩ dX6_set_30 ?_
      clear h
      intro s1 h
      refine a_aload_n (pc := 33) a 0 dX6_set_33 rfl rfl ?_
      refine a_getR (pc := 34) a 0 0 rfl tb vc6 w6 w5 (by decide) (by decide) 1 (q := 1) rfl rfl dX6_set_34 ?_
      refine a_getR (pc := 37) a 12 12 rfl w7 vc3 w9 w8 (by decide) (by decide) 12 (q := 13) rfl rfl dX6_set_37 ?_
      refine a_iload_n (pc := 40) a 1 dX6_set_40 rfl rfl ?_
      refine a_iald (pc := 41) a (tw hinj w10) (by decide) h.1 dX6_set_41 ?_
      replace h := h.2
      refine a_nm (fun x2 hx => ?_)
      replace h := h x2 hx
      clear hx
      refine a_istore_n (pc := 42) a (ls1 := [(3, vI x2), (0, Value.ref (ad 0)), (1, vI p1), (2, vI p2)]) dX6_set_42 rfl (by decide) rfl ?_
      refine a_aload_n (pc := 43) a 1 dX6_set_43 rfl rfl ?_
      refine a_getR (pc := 44) a 0 0 rfl tb vc6 w6 w5 (by decide) (by decide) 1 (q := 1) rfl rfl dX6_set_44 ?_
      refine a_getR (pc := 47) a 12 12 rfl w7 vc3 w9 w8 (by decide) (by decide) 12 (q := 13) rfl rfl dX6_set_47 ?_
      refine a_iload_n (pc := 50) a 2 dX6_set_50 rfl rfl ?_
      refine a_iload_n (pc := 51) a 3 dX6_set_51 rfl rfl ?_
      refine a_iast (pc := 52) a (tw hinj w10) (by decide) h.1 dX6_set_52 ?_
      replace h := h.2
      refine a_nmS (fun s3 hx => ?_)
      replace h := h s3 hx
      clear hx
      refine a_iload_n (pc := 53) a 0 dX6_set_53 rfl rfl ?_
      exact ex_i (pc := 54) a hr dX6_set_54 (by decide) (by decide) h
    · replace h := h.2.2.2 hq
      clear hq
      exact x_throw (pc := 19) a hno (text := "the setting is out of its range") (by decide) rfl (cx := 2) rfl (names := ["java/lang/RuntimeException", "java/lang/Exception"]) (by decide +kernel) (by decide +kernel) w1 w2 w3 (by decide +kernel) dX6_set_19 dX6_set_22 dX6_set_23 dX6_set_25 dX6_set_28 (Nat.le_of_ble_eq_true rfl) (Nat.le_of_ble_eq_true rfl) (Nat.le_of_ble_eq_true rfl) (Nat.le_of_ble_eq_true rfl) (Nat.le_of_ble_eq_true rfl) (Nat.le_of_ble_eq_true rfl) h

set_option maxRecDepth 100000 in
set_option maxHeartbeats 4000000 in
theorem c_X6_setKind {l : Launch} {D : va_G} {X : XI} {ad : Nat → Nat} (hinj : adI ad) (hl0 : l.stackTraces = false) {p1 : Int} {p2 : Int} {p3 : Int}  {σ : St} {K : Int → St → Prop} {X2 : Nat → St → Prop} (h : f_X6_setKind p1 p2 p3 σ K X2) (sz : Nat) : vx_Met l yX6_setKind (WW (.code yX6_setKind cX6_setKind 5 (some .int))) { frames := 7, cells := 3, slots := 18, locals := 111 } (va_Pc [Value.ref (ad 0), vI p1, vI p2, vI p3] (WD D X ad σ sz)) (QI D X ad sz K) (XX D X ad sz X2) 3 18 (AA ad sz) := by
  refine ax_start (cc := cX6_setKind) (maxL := 5) (ret := (some .int)) (own := RX6) [Value.ref (ad 0), vI p1, vI p2, vI p3] (by decide) rfl rfl (Nat.le_of_ble_eq_true rfl) hinj hl0 ?_
  intro p e s m below meth c a hr hno hsz
  subst hsz
  have hts := a.1.2.2.2.2
  have tb : tyc 0 (10, 0) := ⟨by decide, rfl⟩
  have w1 := hts (Cond.fieldLink RX6 10 "SightLegend" "map" "LSightLegend$MapState;") (List.mem_cons_of_mem _ (GL_1 _ (by decide +kernel)))
  have w2 : ∀ w ∈ u_ws RX6 TX6 8, w ∈ WW (.code yX6_setKind cX6_setKind 5 (some .int)) := fun w h => List.mem_cons_of_mem _ (inlX6 w h)
  have w3 : tyc 1 (7, 0) := ty_of (d := 1) (t1 := (7, 0)) (by decide +kernel) rfl tb
  have w4 := hts (Cond.fieldLink RX6 100 "SightLegend$MapState" "rank" "[I") (List.mem_cons_of_mem _ (GL_18 _ (by decide +kernel)))
  have w5 : ∀ w ∈ u_ws RX3 TX3 13, w ∈ WW (.code yX6_setKind cX6_setKind 5 (some .int)) := fun w h => List.mem_cons_of_mem _ (inlX3 w h)
  have w6 : tyc 7 (0, 12) := ty_of (d := 6) (t1 := (0, 12)) (by decide +kernel) rfl w3
  have w7 := hts (Cond.fieldLink RX6 103 "SightLegend$MapState" "group" "[I") (List.mem_cons_of_mem _ (GL_18 _ (by decide +kernel)))
  have w8 : tyc 8 (0, 12) := ty_of (d := 7) (t1 := (0, 12)) (by decide +kernel) rfl w3
  unfold f_X6_setKind at h
  refine a_sub (ls1 := [(0, Value.ref (ad 0)), (1, vI p1), (2, vI p2), (3, vI p3)]) [0, 1, 2, 3] rfl ?_
  refine a_iload_n (pc := 0) a 1 dX6_setKind_0 rfl rfl ?_
  refine a_xsv (pc := 1) a (As := [vI p1]) (rest := []) (fun sz => c_X6_demandKind hinj hl0  h sz) (va_cwS 1 hts (gl_S (GL_18 _ (by decide +kernel)) (GL_18 _ (by decide +kernel)) (GL_1 _ (by decide +kernel)) (GL_18 _ (by decide +kernel))) rfl rfl rfl (by decide +kernel) ⟨Nat.le_of_ble_eq_true rfl, Nat.le_of_ble_eq_true rfl⟩) rfl rfl (Nat.le_of_ble_eq_true rfl) ⟨Nat.le_of_ble_eq_true rfl, Nat.le_of_ble_eq_true rfl⟩ dX6_setKind_1 ?_ ?_
  · rintro E cx ce q9 s9 H1 locs1 la ⟨hs9, hk⟩ hE hP hS hl h1 h2 h3
    subst s9
    exact x_pass a hno (by decide) (by decide) hk hE hP hS h1 h2 h3
  rintro s9 ⟨hs9, h9⟩
  subst s9
  replace h := h9
  clear h9
  refine a_iload_n (pc := 4) a 2 dX6_setKind_4 rfl rfl ?_
  refine a_bipush (pc := 5) a dX6_setKind_5 (by decide) ?_
  refine a_xsv (pc := 7) a (As := [vI p2, vI 100]) (rest := []) (fun sz => c_X6_demandBelow hinj hl0  h sz) (va_cwS 2 hts (gl_S (GL_13 _ (by decide +kernel)) (GL_13 _ (by decide +kernel)) (GL_1 _ (by decide +kernel)) (GL_13 _ (by decide +kernel))) rfl rfl rfl (by decide +kernel) ⟨Nat.le_of_ble_eq_true rfl, Nat.le_of_ble_eq_true rfl⟩) rfl rfl (Nat.le_of_ble_eq_true rfl) ⟨Nat.le_of_ble_eq_true rfl, Nat.le_of_ble_eq_true rfl⟩ dX6_setKind_7 ?_ ?_
  · rintro E cx ce q9 s9 H1 locs1 la ⟨hs9, hk⟩ hE hP hS hl h1 h2 h3
    subst s9
    exact x_pass a hno (by decide) (by decide) hk hE hP hS h1 h2 h3
  rintro s9 ⟨hs9, h9⟩
  subst s9
  replace h := h9
  clear h9
  refine a_iload_n (pc := 10) a 3 dX6_setKind_10 rfl rfl ?_
  refine a_iconst (pc := 11) a dX6_setKind_11 ?_
  refine g_wj0 20 3 18 [(0, Value.ref (ad 0)), (1, vI p1), (2, vI p2), (3, vI p3)] [] h ?_ ?_
  · clear h
    intro  h
    refine a_aload_n (pc := 20) a 0 dX6_setKind_20 rfl rfl ?_
    refine a_cvv (pc := 21) a (As := []) (rest := []) tb vc6 (fun sz => c_X6_saveState hinj hl0  h sz) (cwV 0 hts (gl_V (GL_20 _ (by decide +kernel)) (GL_20 _ (by decide +kernel)) (GL_20 _ (by decide +kernel)) (GL_1 _ (by decide +kernel)) (GL_20 _ (by decide +kernel))) rfl rfl rfl (by decide +kernel) ⟨Nat.le_of_ble_eq_true rfl, Nat.le_of_ble_eq_true rfl⟩) rfl rfl (Nat.le_of_ble_eq_true rfl) ⟨Nat.le_of_ble_eq_true rfl, Nat.le_of_ble_eq_true rfl⟩ dX6_setKind_21 ?_
    clear h
    intro s2 h
    refine a_aload_n (pc := 24) a 0 dX6_setKind_24 rfl rfl ?_
    refine a_getR (pc := 25) a 0 0 rfl tb vc6 w2 w1 (by decide) (by decide) 1 (q := 1) rfl rfl dX6_setKind_25 ?_
    refine a_getR (pc := 28) a 6 6 rfl w3 vc3 w5 w4 (by decide) (by decide) 6 (q := 7) rfl rfl dX6_setKind_28 ?_
    refine a_iload_n (pc := 31) a 1 dX6_setKind_31 rfl rfl ?_
    refine a_iald (pc := 32) a (tw hinj w6) (by decide) h.1 dX6_setKind_32 ?_
    replace h := h.2
    refine a_nm (fun x3 hx => ?_)
    replace h := h x3 hx
    clear hx
    refine a_istore (pc := 33) a (ls1 := [(4, vI x3), (0, Value.ref (ad 0)), (1, vI p1), (2, vI p2), (3, vI p3)]) dX6_setKind_33 (by decide) rfl ?_
    refine a_aload_n (pc := 35) a 1 dX6_setKind_35 rfl rfl ?_
    refine a_getR (pc := 36) a 0 0 rfl tb vc6 w2 w1 (by decide) (by decide) 1 (q := 1) rfl rfl dX6_setKind_36 ?_
    refine a_getR (pc := 39) a 6 6 rfl w3 vc3 w5 w4 (by decide) (by decide) 6 (q := 7) rfl rfl dX6_setKind_39 ?_
    refine a_iload_n (pc := 42) a 2 dX6_setKind_42 rfl rfl ?_
    refine a_iload_n (pc := 43) a 3 dX6_setKind_43 rfl rfl ?_
    refine a_iast (pc := 44) a (tw hinj w6) (by decide) h.1 dX6_setKind_44 ?_
    replace h := h.2
    refine a_nmS (fun s4 hx => ?_)
    replace h := h s4 hx
    clear hx
    refine a_aload_n (pc := 45) a 1 dX6_setKind_45 rfl rfl ?_
    refine a_getR (pc := 46) a 0 0 rfl tb vc6 w2 w1 (by decide) (by decide) 1 (q := 1) rfl rfl dX6_setKind_46 ?_
    refine a_getR (pc := 49) a 7 7 rfl w3 vc3 w5 w7 (by decide) (by decide) 7 (q := 8) rfl rfl dX6_setKind_49 ?_
    refine a_iload_n (pc := 52) a 2 dX6_setKind_52 rfl rfl ?_
    refine a_iload_n (pc := 53) a 4 dX6_setKind_53 rfl rfl ?_
    refine a_iast (pc := 54) a (tw hinj w8) (by decide) h.1 dX6_setKind_54 ?_
    replace h := h.2
    refine a_nmS (fun s5 hx => ?_)
    replace h := h s5 hx
    clear hx
    refine a_iload (pc := 55) a 0 dX6_setKind_55 rfl ?_
    exact ex_i (pc := 57) a hr dX6_setKind_57 (by decide) (by decide) h
  · clear h
    intro jj20 hjj20 h
    refine a_icmp_eq (pc := 12) a h.1 ⟨by decide, by decide⟩ dX6_setKind_12 (tgt := 20) (by decide) (fun hq => ?_) (fun hq => ?_)
    · replace h := h.2.1 hq
      clear hq
      refine a_wid 3 18 (by omega) (by omega) ?_
      exact hjj20  h
    · replace h := h.2.2 hq
      clear hq
      refine a_iload_n (pc := 15) a 3 dX6_setKind_15 rfl rfl ?_
      refine a_iconst (pc := 16) a dX6_setKind_16 ?_
      refine a_xsv (pc := 17) a (As := [vI p3, vI 5]) (rest := []) (fun sz => c_X6_demandBelow hinj hl0  h sz) (va_cwS 2 hts (gl_S (GL_13 _ (by decide +kernel)) (GL_13 _ (by decide +kernel)) (GL_1 _ (by decide +kernel)) (GL_13 _ (by decide +kernel))) rfl rfl rfl (by decide +kernel) ⟨Nat.le_of_ble_eq_true rfl, Nat.le_of_ble_eq_true rfl⟩) rfl rfl (Nat.le_of_ble_eq_true rfl) ⟨Nat.le_of_ble_eq_true rfl, Nat.le_of_ble_eq_true rfl⟩ dX6_setKind_17 ?_ ?_
      · rintro E cx ce q9 s9 H1 locs1 la ⟨hs9, hk⟩ hE hP hS hl h1 h2 h3
        subst s9
        exact x_pass a hno (by decide) (by decide) hk hE hP hS h1 h2 h3
      rintro s9 ⟨hs9, h9⟩
      subst s9
      replace h := h9
      clear h9
      refine a_wid 3 18 (by omega) (by omega) ?_
      exact hjj20  h

set_option maxRecDepth 100000 in
set_option maxHeartbeats 4000000 in
theorem c_X6_setWay {l : Launch} {D : va_G} {X : XI} {ad : Nat → Nat} (hinj : adI ad) (hl0 : l.stackTraces = false) {p1 : Int} {p2 : Int}  {σ : St} {K : Int → St → Prop} {X2 : Nat → St → Prop} (h : f_X6_setWay p1 p2 σ K X2) (sz : Nat) : vx_Met l yX6_setWay (WW (.code yX6_setWay cX6_setWay 4 (some .int))) { frames := 7, cells := 1, slots := 6, locals := 111 } (va_Pc [Value.ref (ad 0), vI p1, vI p2] (WD D X ad σ sz)) (QI D X ad sz K) (XX D X ad sz X2) 1 6 (AA ad sz) := by
  refine ax_start (cc := cX6_setWay) (maxL := 4) (ret := (some .int)) (own := RX6) [Value.ref (ad 0), vI p1, vI p2] (by decide) rfl rfl (Nat.le_of_ble_eq_true rfl) hinj hl0 ?_
  intro p e s m below meth c a hr hno hsz
  subst hsz
  have hts := a.1.2.2.2.2
  have tb : tyc 0 (10, 0) := ⟨by decide, rfl⟩
  have w1 := hts (Cond.classLink RX6 106 "java/lang/IndexOutOfBoundsException") (List.mem_cons_of_mem _ (GL_16 _ (by decide +kernel)))
  have w2 := hts (Cond.initialized "java/lang/IndexOutOfBoundsException") (List.mem_cons_of_mem _ (GL_16 _ (by decide +kernel)))
  have w3 : ∀ w ∈ (vx_atS RX6 110 "java/lang/IndexOutOfBoundsException" ["java/lang/RuntimeException", "java/lang/Exception"]), w.before _ s = true := vx_hat (L := (vx_atS RX6 110 "java/lang/IndexOutOfBoundsException" ["java/lang/RuntimeException", "java/lang/Exception"])) (B := Cond.castable "java/lang/IndexOutOfBoundsException" "java/lang/IndexOutOfBoundsException" :: sups.map (fun x => Cond.declares (Bundle.initS x))) (fun w h => hts w (List.mem_cons_of_mem _ (GT_110 w h))) (by decide +kernel) (fun w h => ex_B (va_Nw.use rfl (a.2.2.2.1.2.2.2.2.1 _ (by decide))) (fun E hE => va_Nw.use rfl (a.2.2.2.1.2.2.2.2.2.1 E hE)) w h)
  have w4 := hts (Cond.fieldLink RX6 10 "SightLegend" "map" "LSightLegend$MapState;") (List.mem_cons_of_mem _ (GL_1 _ (by decide +kernel)))
  have w5 : ∀ w ∈ u_ws RX6 TX6 8, w ∈ WW (.code yX6_setWay cX6_setWay 4 (some .int)) := fun w h => List.mem_cons_of_mem _ (inlX6 w h)
  have w6 : tyc 1 (7, 0) := ty_of (d := 1) (t1 := (7, 0)) (by decide +kernel) rfl tb
  have w7 := hts (Cond.fieldLink RX6 111 "SightLegend$MapState" "way" "[I") (List.mem_cons_of_mem _ (GL_22 _ (by decide +kernel)))
  have w8 : ∀ w ∈ u_ws RX3 TX3 13, w ∈ WW (.code yX6_setWay cX6_setWay 4 (some .int)) := fun w h => List.mem_cons_of_mem _ (inlX3 w h)
  have w9 : tyc 11 (0, 5) := ty_of (d := 10) (t1 := (0, 5)) (by decide +kernel) rfl w6
  unfold f_X6_setWay at h
  refine a_sub (ls1 := [(0, Value.ref (ad 0)), (1, vI p1), (2, vI p2)]) [0, 1, 2] rfl ?_
  refine a_iload_n (pc := 0) a 1 dX6_setWay_0 rfl rfl ?_
  refine a_if_lt (pc := 1) a h.1 dX6_setWay_1 (tgt := 9) (by decide) (fun hq => ?_) (fun hq => ?_)
  · replace h := h.2.1 hq
    clear hq
    exact x_throw (pc := 9) a hno (text := "there is no such group") (by decide) rfl (cx := 1) rfl (names := ["java/lang/RuntimeException", "java/lang/Exception"]) (by decide +kernel) (by decide +kernel) w1 w2 w3 (by decide +kernel) dX6_setWay_9 dX6_setWay_12 dX6_setWay_13 dX6_setWay_15 dX6_setWay_18 (Nat.le_of_ble_eq_true rfl) (Nat.le_of_ble_eq_true rfl) (Nat.le_of_ble_eq_true rfl) (Nat.le_of_ble_eq_true rfl) (Nat.le_of_ble_eq_true rfl) (Nat.le_of_ble_eq_true rfl) h
  · replace h := h.2.2 hq
    clear hq
    refine a_iload_n (pc := 4) a 1 dX6_setWay_4 rfl rfl ?_
    refine a_iconst (pc := 5) a dX6_setWay_5 ?_
    refine a_icmp_lt (pc := 6) a h.1 ⟨by decide, by decide⟩ dX6_setWay_6 (tgt := 19) (by decide) (fun hq => ?_) (fun hq => ?_)
    · replace h := h.2.1 hq
      clear hq
      refine a_iload_n (pc := 19) a 2 dX6_setWay_19 rfl rfl ?_
      refine a_iconst (pc := 20) a dX6_setWay_20 ?_
      refine a_xsv (pc := 21) a (As := [vI p2, vI 2]) (rest := []) (fun sz => c_X6_demandBelow hinj hl0  h sz) (va_cwS 2 hts (gl_S (GL_13 _ (by decide +kernel)) (GL_13 _ (by decide +kernel)) (GL_1 _ (by decide +kernel)) (GL_13 _ (by decide +kernel))) rfl rfl rfl (by decide +kernel) ⟨Nat.le_of_ble_eq_true rfl, Nat.le_of_ble_eq_true rfl⟩) rfl rfl (Nat.le_of_ble_eq_true rfl) ⟨Nat.le_of_ble_eq_true rfl, Nat.le_of_ble_eq_true rfl⟩ dX6_setWay_21 ?_ ?_
      · rintro E cx ce q9 s9 H1 locs1 la ⟨hs9, hk⟩ hE hP hS hl h1 h2 h3
        subst s9
        exact x_pass a hno (by decide) (by decide) hk hE hP hS h1 h2 h3
      rintro s9 ⟨hs9, h9⟩
      subst s9
      replace h := h9
      clear h9
      refine a_aload_n (pc := 24) a 0 dX6_setWay_24 rfl rfl ?_
      refine a_cvv (pc := 25) a (As := []) (rest := []) tb vc6 (fun sz => c_X6_saveState hinj hl0  h sz) (cwV 0 hts (gl_V (GL_20 _ (by decide +kernel)) (GL_20 _ (by decide +kernel)) (GL_20 _ (by decide +kernel)) (GL_1 _ (by decide +kernel)) (GL_20 _ (by decide +kernel))) rfl rfl rfl (by decide +kernel) ⟨Nat.le_of_ble_eq_true rfl, Nat.le_of_ble_eq_true rfl⟩) rfl rfl (Nat.le_of_ble_eq_true rfl) ⟨Nat.le_of_ble_eq_true rfl, Nat.le_of_ble_eq_true rfl⟩ dX6_setWay_25 ?_
      clear h
      intro s1 h
      refine a_aload_n (pc := 28) a 0 dX6_setWay_28 rfl rfl ?_
      refine a_getR (pc := 29) a 0 0 rfl tb vc6 w5 w4 (by decide) (by decide) 1 (q := 1) rfl rfl dX6_setWay_29 ?_
      refine a_getR (pc := 32) a 10 10 rfl w6 vc3 w8 w7 (by decide) (by decide) 10 (q := 11) rfl rfl dX6_setWay_32 ?_
      refine a_iload_n (pc := 35) a 1 dX6_setWay_35 rfl rfl ?_
      refine a_iald (pc := 36) a (tw hinj w9) (by decide) h.1 dX6_setWay_36 ?_
      replace h := h.2
      refine a_nm (fun x2 hx => ?_)
      replace h := h x2 hx
      clear hx
      refine a_istore_n (pc := 37) a (ls1 := [(3, vI x2), (0, Value.ref (ad 0)), (1, vI p1), (2, vI p2)]) dX6_setWay_37 rfl (by decide) rfl ?_
      refine a_aload_n (pc := 38) a 1 dX6_setWay_38 rfl rfl ?_
      refine a_getR (pc := 39) a 0 0 rfl tb vc6 w5 w4 (by decide) (by decide) 1 (q := 1) rfl rfl dX6_setWay_39 ?_
      refine a_getR (pc := 42) a 10 10 rfl w6 vc3 w8 w7 (by decide) (by decide) 10 (q := 11) rfl rfl dX6_setWay_42 ?_
      refine a_iload_n (pc := 45) a 2 dX6_setWay_45 rfl rfl ?_
      refine a_iload_n (pc := 46) a 3 dX6_setWay_46 rfl rfl ?_
      refine a_iast (pc := 47) a (tw hinj w9) (by decide) h.1 dX6_setWay_47 ?_
      replace h := h.2
      refine a_nmS (fun s3 hx => ?_)
      replace h := h s3 hx
      clear hx
      refine a_iload_n (pc := 48) a 0 dX6_setWay_48 rfl rfl ?_
      exact ex_i (pc := 49) a hr dX6_setWay_49 (by decide) (by decide) h
    · replace h := h.2.2 hq
      clear hq
      exact x_throw (pc := 9) a hno (text := "there is no such group") (by decide) rfl (cx := 1) rfl (names := ["java/lang/RuntimeException", "java/lang/Exception"]) (by decide +kernel) (by decide +kernel) w1 w2 w3 (by decide +kernel) dX6_setWay_9 dX6_setWay_12 dX6_setWay_13 dX6_setWay_15 dX6_setWay_18 (Nat.le_of_ble_eq_true rfl) (Nat.le_of_ble_eq_true rfl) (Nat.le_of_ble_eq_true rfl) (Nat.le_of_ble_eq_true rfl) (Nat.le_of_ble_eq_true rfl) (Nat.le_of_ble_eq_true rfl) h

set_option maxRecDepth 100000 in
set_option maxHeartbeats 4000000 in
theorem c_X6_limit {l : Launch} {D : va_G} {X : XI} {ad : Nat → Nat} (hinj : adI ad) (hl0 : l.stackTraces = false) {p1 : Int} {p2 : Int}  {σ : St} {K : Int → St → Prop} {X2 : Nat → St → Prop} (h : f_X6_limit p1 p2 σ K X2) (sz : Nat) : vx_Met l yX6_limit (WW (.code yX6_limit cX6_limit 4 (some .int))) { frames := 7, cells := 2, slots := 12, locals := 110 } (va_Pc [Value.ref (ad 0), vI p1, vI p2] (WD D X ad σ sz)) (QI D X ad sz K) (XX D X ad sz X2) 2 12 (AA ad sz) := by
  refine ax_start (cc := cX6_limit) (maxL := 4) (ret := (some .int)) (own := RX6) [Value.ref (ad 0), vI p1, vI p2] (by decide) rfl rfl (Nat.le_of_ble_eq_true rfl) hinj hl0 ?_
  intro p e s m below meth c a hr hno hsz
  subst hsz
  have hts := a.1.2.2.2.2
  have tb : tyc 0 (10, 0) := ⟨by decide, rfl⟩
  have w1 := hts (Cond.classLink RX6 92 "java/lang/IllegalArgumentException") (List.mem_cons_of_mem _ (GL_14 _ (by decide +kernel)))
  have w2 := hts (Cond.initialized "java/lang/IllegalArgumentException") (List.mem_cons_of_mem _ (GL_14 _ (by decide +kernel)))
  have w3 : ∀ w ∈ (vx_atS RX6 96 "java/lang/IllegalArgumentException" ["java/lang/RuntimeException", "java/lang/Exception"]), w.before _ s = true := vx_hat (L := (vx_atS RX6 96 "java/lang/IllegalArgumentException" ["java/lang/RuntimeException", "java/lang/Exception"])) (B := Cond.castable "java/lang/IllegalArgumentException" "java/lang/IllegalArgumentException" :: sups.map (fun x => Cond.declares (Bundle.initS x))) (fun w h => hts w (List.mem_cons_of_mem _ (GT_96 w h))) (by decide +kernel) (fun w h => ex_B (va_Nw.use rfl (a.2.2.2.1.2.2.2.2.1 _ (by decide))) (fun E hE => va_Nw.use rfl (a.2.2.2.1.2.2.2.2.2.1 E hE)) w h)
  have w4 := hts (Cond.fieldLink RX6 10 "SightLegend" "map" "LSightLegend$MapState;") (List.mem_cons_of_mem _ (GL_1 _ (by decide +kernel)))
  have w5 : ∀ w ∈ u_ws RX6 TX6 8, w ∈ WW (.code yX6_limit cX6_limit 4 (some .int)) := fun w h => List.mem_cons_of_mem _ (inlX6 w h)
  have w6 : tyc 1 (7, 0) := ty_of (d := 1) (t1 := (7, 0)) (by decide +kernel) rfl tb
  have w7 := hts (Cond.fieldLink RX6 120 "SightLegend$MapState" "limitCount" "[I") (List.mem_cons_of_mem _ (GL_18 _ (by decide +kernel)))
  have w8 : ∀ w ∈ u_ws RX3 TX3 13, w ∈ WW (.code yX6_limit cX6_limit 4 (some .int)) := fun w h => List.mem_cons_of_mem _ (inlX3 w h)
  have w9 : tyc 9 (0, 12) := ty_of (d := 8) (t1 := (0, 12)) (by decide +kernel) rfl w6
  have w10 := hts (Cond.classLink RX6 52 "java/lang/IllegalStateException") (List.mem_cons_of_mem _ (GL_22 _ (by decide +kernel)))
  have w11 := hts (Cond.initialized "java/lang/IllegalStateException") (List.mem_cons_of_mem _ (GL_22 _ (by decide +kernel)))
  have w12 : ∀ w ∈ (vx_atS RX6 56 "java/lang/IllegalStateException" ["java/lang/RuntimeException", "java/lang/Exception"]), w.before _ s = true := vx_hat (L := (vx_atS RX6 56 "java/lang/IllegalStateException" ["java/lang/RuntimeException", "java/lang/Exception"])) (B := Cond.castable "java/lang/IllegalStateException" "java/lang/IllegalStateException" :: sups.map (fun x => Cond.declares (Bundle.initS x))) (fun w h => hts w (List.mem_cons_of_mem _ (GT_56 w h))) (by decide +kernel) (fun w h => ex_B (va_Nw.use rfl (a.2.2.2.1.2.2.2.2.1 _ (by decide))) (fun E hE => va_Nw.use rfl (a.2.2.2.1.2.2.2.2.2.1 E hE)) w h)
  unfold f_X6_limit at h
  refine a_sub (ls1 := [(0, Value.ref (ad 0)), (1, vI p1), (2, vI p2)]) [0, 1, 2] rfl ?_
  refine a_iload_n (pc := 0) a 1 dX6_limit_0 rfl rfl ?_
  refine a_xsv (pc := 1) a (As := [vI p1]) (rest := []) (fun sz => c_X6_demandKind hinj hl0  h sz) (va_cwS 1 hts (gl_S (GL_18 _ (by decide +kernel)) (GL_18 _ (by decide +kernel)) (GL_1 _ (by decide +kernel)) (GL_18 _ (by decide +kernel))) rfl rfl rfl (by decide +kernel) ⟨Nat.le_of_ble_eq_true rfl, Nat.le_of_ble_eq_true rfl⟩) rfl rfl (Nat.le_of_ble_eq_true rfl) ⟨Nat.le_of_ble_eq_true rfl, Nat.le_of_ble_eq_true rfl⟩ dX6_limit_1 ?_ ?_
  · rintro E cx ce q9 s9 H1 locs1 la ⟨hs9, hk⟩ hE hP hS hl h1 h2 h3
    subst s9
    exact x_pass a hno (by decide) (by decide) hk hE hP hS h1 h2 h3
  rintro s9 ⟨hs9, h9⟩
  subst s9
  replace h := h9
  clear h9
  refine a_iload_n (pc := 4) a 2 dX6_limit_4 rfl rfl ?_
  refine a_iconst (pc := 5) a dX6_limit_5 ?_
  refine a_icmp_lt (pc := 6) a h.1 ⟨by decide, by decide⟩ dX6_limit_6 (tgt := 16) (by decide) (fun hq => ?_) (fun hq => ?_)
  · replace h := h.2.1 hq
    clear hq
    exact x_throw (pc := 16) a hno (text := "the limit is out of its range") (by decide) rfl (cx := 2) rfl (names := ["java/lang/RuntimeException", "java/lang/Exception"]) (by decide +kernel) (by decide +kernel) w1 w2 w3 (by decide +kernel) dX6_limit_16 dX6_limit_19 dX6_limit_20 dX6_limit_22 dX6_limit_25 (Nat.le_of_ble_eq_true rfl) (Nat.le_of_ble_eq_true rfl) (Nat.le_of_ble_eq_true rfl) (Nat.le_of_ble_eq_true rfl) (Nat.le_of_ble_eq_true rfl) (Nat.le_of_ble_eq_true rfl) h
  · replace h := h.2.2 hq
    clear hq
    refine a_iload_n (pc := 9) a 2 dX6_limit_9 rfl rfl ?_
    refine a_sipush (pc := 10) a dX6_limit_10 (by decide) ?_
    refine a_icmp_lt (pc := 13) a h.1 ⟨by decide, by decide⟩ dX6_limit_13 (tgt := 26) (by decide) (fun hq => ?_) (fun hq => ?_)
    · replace h := h.2.1 hq
      clear hq
      refine a_aload_n (pc := 26) a 0 dX6_limit_26 rfl rfl ?_
      refine a_getR (pc := 27) a 0 0 rfl tb vc6 w5 w4 (by decide) (by decide) 1 (q := 1) rfl rfl dX6_limit_27 ?_
      refine a_iload_n (pc := 30) a 1 dX6_limit_30 rfl rfl ?_
      refine a_iload_n (pc := 31) a 2 dX6_limit_31 rfl rfl ?_
      refine a_cvi (pc := 32) a (As := [vI p1, vI p2]) (rest := []) w6 vc3 (fun sz => c_X3_hasLimit hinj hl0 w6 h sz) (cwV 2 hts (gl_V (GL_22 _ (by decide +kernel)) (GL_22 _ (by decide +kernel)) (GL_22 _ (by decide +kernel)) (GL_1 _ (by decide +kernel)) (GL_22 _ (by decide +kernel))) rfl rfl rfl (by decide +kernel) ⟨Nat.le_of_ble_eq_true rfl, Nat.le_of_ble_eq_true rfl⟩) rfl rfl (Nat.le_of_ble_eq_true rfl) ⟨Nat.le_of_ble_eq_true rfl, Nat.le_of_ble_eq_true rfl⟩ dX6_limit_32 ?_
      rintro x1 s9 ⟨hs9, h9⟩
      subst s9
      replace h := h9
      clear h9
      refine a_istore_n (pc := 35) a (ls1 := [(3, vI x1), (0, Value.ref (ad 0)), (1, vI p1), (2, vI p2)]) dX6_limit_35 rfl (by decide) rfl ?_
      refine a_iload_n (pc := 36) a 0 dX6_limit_36 rfl rfl ?_
      refine g_wj0 63 1 6 [(0, Value.ref (ad 0)), (1, vI p1), (2, vI p2), (3, vI x1)] [] h ?_ ?_
      · clear h
        intro  h
        refine a_aload_n (pc := 63) a 0 dX6_limit_63 rfl rfl ?_
        refine a_cvv (pc := 64) a (As := []) (rest := []) tb vc6 (fun sz => c_X6_saveState hinj hl0  h sz) (cwV 0 hts (gl_V (GL_20 _ (by decide +kernel)) (GL_20 _ (by decide +kernel)) (GL_20 _ (by decide +kernel)) (GL_1 _ (by decide +kernel)) (GL_20 _ (by decide +kernel))) rfl rfl rfl (by decide +kernel) ⟨Nat.le_of_ble_eq_true rfl, Nat.le_of_ble_eq_true rfl⟩) rfl rfl (Nat.le_of_ble_eq_true rfl) ⟨Nat.le_of_ble_eq_true rfl, Nat.le_of_ble_eq_true rfl⟩ dX6_limit_64 ?_
        clear h
        intro s3 h
        refine a_iload_n (pc := 67) a 3 dX6_limit_67 rfl rfl ?_
        refine a_if_eq (pc := 68) a h.1 dX6_limit_68 (tgt := 83) (by decide) (fun hq => ?_) (fun hq => ?_)
        · replace h := h.2.1 hq
          clear hq
          refine a_aload_n (pc := 83) a 0 dX6_limit_83 rfl rfl ?_
          refine a_getR (pc := 84) a 0 0 rfl tb vc6 w5 w4 (by decide) (by decide) 1 (q := 1) rfl rfl dX6_limit_84 ?_
          refine a_iload_n (pc := 87) a 1 dX6_limit_87 rfl rfl ?_
          refine a_iload_n (pc := 88) a 2 dX6_limit_88 rfl rfl ?_
          refine a_cvv (pc := 89) a (As := [vI p1, vI p2]) (rest := []) w6 vc3 (fun sz => c_X3_putLimit hinj hl0 w6 h sz) (cwV 2 hts (gl_V (GL_22 _ (by decide +kernel)) (GL_22 _ (by decide +kernel)) (GL_22 _ (by decide +kernel)) (GL_1 _ (by decide +kernel)) (GL_22 _ (by decide +kernel))) rfl rfl rfl (by decide +kernel) ⟨Nat.le_of_ble_eq_true rfl, Nat.le_of_ble_eq_true rfl⟩) rfl rfl (Nat.le_of_ble_eq_true rfl) ⟨Nat.le_of_ble_eq_true rfl, Nat.le_of_ble_eq_true rfl⟩ dX6_limit_89 ?_
          clear h
          intro s4 h
          refine a_aload_n (pc := 92) a 0 dX6_limit_92 rfl rfl ?_
          refine a_getR (pc := 93) a 0 0 rfl tb vc6 w5 w4 (by decide) (by decide) 1 (q := 1) rfl rfl dX6_limit_93 ?_
          refine a_getR (pc := 96) a 8 8 rfl w6 vc3 w8 w7 (by decide) (by decide) 8 (q := 9) rfl rfl dX6_limit_96 ?_
          refine a_iload_n (pc := 99) a 1 dX6_limit_99 rfl rfl ?_
          refine a_iald (pc := 100) a (tw hinj w9) (by decide) h.1 dX6_limit_100 ?_
          replace h := h.2
          exact ex_i (pc := 101) a hr dX6_limit_101 (by decide) (by decide) h
        · replace h := h.2.2 hq
          clear hq
          refine a_aload_n (pc := 71) a 0 dX6_limit_71 rfl rfl ?_
          refine a_getR (pc := 72) a 0 0 rfl tb vc6 w5 w4 (by decide) (by decide) 1 (q := 1) rfl rfl dX6_limit_72 ?_
          refine a_iload_n (pc := 75) a 1 dX6_limit_75 rfl rfl ?_
          refine a_iload_n (pc := 76) a 2 dX6_limit_76 rfl rfl ?_
          refine a_cvv (pc := 77) a (As := [vI p1, vI p2]) (rest := []) w6 vc3 (fun sz => c_X3_dropLimit hinj hl0 w6 h sz) (cwV 2 hts (gl_V (GL_22 _ (by decide +kernel)) (GL_22 _ (by decide +kernel)) (GL_22 _ (by decide +kernel)) (GL_1 _ (by decide +kernel)) (GL_22 _ (by decide +kernel))) rfl rfl rfl (by decide +kernel) ⟨Nat.le_of_ble_eq_true rfl, Nat.le_of_ble_eq_true rfl⟩) rfl rfl (Nat.le_of_ble_eq_true rfl) ⟨Nat.le_of_ble_eq_true rfl, Nat.le_of_ble_eq_true rfl⟩ dX6_limit_77 ?_
          clear h
          intro s5 h
          refine a_goto (pc := 80) a dX6_limit_80 (tgt := 92) (by decide) ?_
          refine a_aload_n (pc := 92) a 0 dX6_limit_92 rfl rfl ?_
          refine a_getR (pc := 93) a 0 0 rfl tb vc6 w5 w4 (by decide) (by decide) 1 (q := 1) rfl rfl dX6_limit_93 ?_
          refine a_getR (pc := 96) a 8 8 rfl w6 vc3 w8 w7 (by decide) (by decide) 8 (q := 9) rfl rfl dX6_limit_96 ?_
          refine a_iload_n (pc := 99) a 1 dX6_limit_99 rfl rfl ?_
          refine a_iald (pc := 100) a (tw hinj w9) (by decide) h.1 dX6_limit_100 ?_
          replace h := h.2
          exact ex_i (pc := 101) a hr dX6_limit_101 (by decide) (by decide) h
      · clear h
        intro jj63 hjj63 h
        refine a_if_ne (pc := 37) a h.1 dX6_limit_37 (tgt := 63) (by decide) (fun hq => ?_) (fun hq => ?_)
        · replace h := h.2.1 hq
          clear hq
          refine a_sub (ls1 := [(0, Value.ref (ad 0)), (1, vI p1), (2, vI p2), (3, vI x1)]) [1, 2, 3, 0] rfl ?_
          refine a_wid 1 6 (by omega) (by omega) ?_
          exact hjj63  h
        · replace h := h.2.2 hq
          clear hq
          refine a_aload_n (pc := 40) a 1 dX6_limit_40 rfl rfl ?_
          refine a_getR (pc := 41) a 0 0 rfl tb vc6 w5 w4 (by decide) (by decide) 1 (q := 1) rfl rfl dX6_limit_41 ?_
          refine a_getR (pc := 44) a 8 8 rfl w6 vc3 w8 w7 (by decide) (by decide) 8 (q := 9) rfl rfl dX6_limit_44 ?_
          refine a_iload_n (pc := 47) a 2 dX6_limit_47 rfl rfl ?_
          refine a_iald (pc := 48) a (tw hinj w9) (by decide) h.1 dX6_limit_48 ?_
          replace h := h.2
          refine a_iconst (pc := 49) a dX6_limit_49 ?_
          refine a_icmp_lt (pc := 50) a h.1 ⟨by decide, by decide⟩ dX6_limit_50 (tgt := 63) (by decide) (fun hq => ?_) (fun hq => ?_)
          · replace h := h.2.1 hq
            clear hq
            refine a_sub (ls1 := [(0, Value.ref (ad 0)), (1, vI p1), (2, vI p2), (3, vI x1)]) [1, 2, 3, 0] rfl ?_
            refine a_wid 1 6 (by omega) (by omega) ?_
            exact hjj63  h
          · replace h := h.2.2 hq
            clear hq
            exact x_throw (pc := 53) a hno (text := "the kind has all its limits") (by decide) rfl (cx := 3) rfl (names := ["java/lang/RuntimeException", "java/lang/Exception"]) (by decide +kernel) (by decide +kernel) w10 w11 w12 (by decide +kernel) dX6_limit_53 dX6_limit_56 dX6_limit_57 dX6_limit_59 dX6_limit_62 (Nat.le_of_ble_eq_true rfl) (Nat.le_of_ble_eq_true rfl) (Nat.le_of_ble_eq_true rfl) (Nat.le_of_ble_eq_true rfl) (Nat.le_of_ble_eq_true rfl) (Nat.le_of_ble_eq_true rfl) h
    · replace h := h.2.2 hq
      clear hq
      exact x_throw (pc := 16) a hno (text := "the limit is out of its range") (by decide) rfl (cx := 2) rfl (names := ["java/lang/RuntimeException", "java/lang/Exception"]) (by decide +kernel) (by decide +kernel) w1 w2 w3 (by decide +kernel) dX6_limit_16 dX6_limit_19 dX6_limit_20 dX6_limit_22 dX6_limit_25 (Nat.le_of_ble_eq_true rfl) (Nat.le_of_ble_eq_true rfl) (Nat.le_of_ble_eq_true rfl) (Nat.le_of_ble_eq_true rfl) (Nat.le_of_ble_eq_true rfl) (Nat.le_of_ble_eq_true rfl) h

set_option maxRecDepth 100000 in
set_option maxHeartbeats 4000000 in
theorem c_X6_numberOf {l : Launch} {D : va_G} {X : XI} {ad : Nat → Nat} (hinj : adI ad) (hl0 : l.stackTraces = false) {p1 : Int}  {σ : St} {K : Int → Prop} (h : f_X6_numberOf p1 σ K) (sz : Nat) : Met l yX6_numberOf (WW (.code yX6_numberOf cX6_numberOf 2 (some .int))) { frames := 0, cells := 0, slots := 0, locals := 0 } (va_Pc [Value.ref (ad 0), vI p1] (WD D X ad σ sz)) (QI D X ad sz (fun r τ => τ = σ ∧ K r)) 0 0 (AA ad sz) := by
  refine a_start (cc := cX6_numberOf) (maxL := 2) (ret := (some .int)) (own := RX6) [Value.ref (ad 0), vI p1] (by decide) rfl rfl (Nat.le_of_ble_eq_true rfl) hinj hl0 ?_
  intro p e s m below meth c a hr hsz
  subst hsz
  have hts := a.1.2.2.2.2
  have tb : tyc 0 (10, 0) := ⟨by decide, rfl⟩
  have w1 := hts (Cond.fieldLink RX6 10 "SightLegend" "map" "LSightLegend$MapState;") (List.mem_cons_of_mem _ (GL_1 _ (by decide +kernel)))
  have w2 : ∀ w ∈ u_ws RX6 TX6 8, w ∈ WW (.code yX6_numberOf cX6_numberOf 2 (some .int)) := fun w h => List.mem_cons_of_mem _ (inlX6 w h)
  have w3 : tyc 1 (7, 0) := ty_of (d := 1) (t1 := (7, 0)) (by decide +kernel) rfl tb
  have w4 := hts (Cond.fieldLink RX6 48 "SightLegend$MapState" "signCount" "I") (List.mem_cons_of_mem _ (GL_15 _ (by decide +kernel)))
  have w5 : ∀ w ∈ u_ws RX3 TX3 13, w ∈ WW (.code yX6_numberOf cX6_numberOf 2 (some .int)) := fun w h => List.mem_cons_of_mem _ (inlX3 w h)
  have w6 := hts (Cond.fieldLink RX6 19 "SightLegend" "legend" "LSightLegend$Legend;") (List.mem_cons_of_mem _ (GL_1 _ (by decide +kernel)))
  have w7 : tyc 14 (5, 0) := ty_of (d := 14) (t1 := (5, 0)) (by decide +kernel) rfl tb
  have w8 := hts (Cond.fieldLink RX6 174 "SightLegend$Legend" "shownCount" "I") (List.mem_cons_of_mem _ (GL_15 _ (by decide +kernel)))
  have w9 : ∀ w ∈ u_ws RX1 TX1 12, w ∈ WW (.code yX6_numberOf cX6_numberOf 2 (some .int)) := fun w h => List.mem_cons_of_mem _ (inlX1 w h)
  have w10 := hts (Cond.fieldLink RX6 177 "SightLegend$Legend" "explainedCount" "I") (List.mem_cons_of_mem _ (GL_15 _ (by decide +kernel)))
  have w11 := hts (Cond.fieldLink RX6 82 "SightLegend$MapState" "window" "[I") (List.mem_cons_of_mem _ (GL_15 _ (by decide +kernel)))
  have w12 : tyc 12 (0, 5) := ty_of (d := 11) (t1 := (0, 5)) (by decide +kernel) rfl w3
  have w13 := hts (Cond.fieldLink RX6 97 "SightLegend$MapState" "settings" "[I") (List.mem_cons_of_mem _ (GL_15 _ (by decide +kernel)))
  have w14 : tyc 13 (0, 4) := ty_of (d := 12) (t1 := (0, 4)) (by decide +kernel) rfl w3
  unfold f_X6_numberOf at h
  refine a_sub (ls1 := [(0, Value.ref (ad 0)), (1, vI p1)]) [0, 1] rfl ?_
  refine a_iload_n (pc := 0) a 1 dX6_numberOf_0 rfl rfl ?_
  refine a_iconst (pc := 1) a dX6_numberOf_1 ?_
  refine a_icmp_ge (pc := 2) a h.1 ⟨by decide, by decide⟩ dX6_numberOf_2 (tgt := 23) (by decide) (fun hq => ?_) (fun hq => ?_)
  · replace h := h.2.1 hq
    clear hq
    refine a_iload_n (pc := 23) a 1 dX6_numberOf_23 rfl rfl ?_
    refine a_bipush (pc := 24) a dX6_numberOf_24 (by decide) ?_
    refine a_icmp_ge (pc := 26) a h.1 ⟨by decide, by decide⟩ dX6_numberOf_26 (tgt := 41) (by decide) (fun hq => ?_) (fun hq => ?_)
    · replace h := h.2.1 hq
      clear hq
      refine a_iload_n (pc := 41) a 1 dX6_numberOf_41 rfl rfl ?_
      have hsw : p1 = 9 ∨ p1 = 10 ∨ (p1 ≠ 9 ∧ p1 ≠ 10) := by omega
      rcases hsw with hq | hq | hq
      · have hr := h.1
        replace h := h.2.1 hq
        refine a_lsw (pc := 42) a hr dX6_numberOf_42 rfl (off := 26) (by rw [hq]; rfl) (tgt := 68) (by decide) ?_
        clear hq hr
        refine a_aload_n (pc := 68) a 0 dX6_numberOf_68 rfl rfl ?_
        refine a_getR (pc := 69) a 0 0 rfl tb vc6 w2 w1 (by decide) (by decide) 1 (q := 1) rfl rfl dX6_numberOf_69 ?_
        refine a_getI (pc := 72) a 5 5 rfl w3 vc3 w5 w4 (by decide) (by decide) rfl dX6_numberOf_72 ?_
        exact e_i (pc := 75) a hr dX6_numberOf_75 ⟨rfl, h⟩
      · have hr := h.1
        replace h := h.2.2.1 hq
        refine a_lsw (pc := 42) a hr dX6_numberOf_42 rfl (off := 34) (by rw [hq]; rfl) (tgt := 76) (by decide) ?_
        clear hq hr
        refine a_aload_n (pc := 76) a 0 dX6_numberOf_76 rfl rfl ?_
        refine a_getR (pc := 77) a 1 1 rfl tb vc6 w2 w6 (by decide) (by decide) 14 (q := 14) rfl rfl dX6_numberOf_77 ?_
        refine a_getI (pc := 80) a 3 3 rfl w7 vc1 w9 w8 (by decide) (by decide) rfl dX6_numberOf_80 ?_
        exact e_i (pc := 83) a hr dX6_numberOf_83 ⟨rfl, h⟩
      · have hr := h.1
        replace h := h.2.2.2 hq
        refine a_lsw (pc := 42) a hr dX6_numberOf_42 rfl (off := 42) (by first | (simp [Op.lookupswitch.offset, hq]; done) | (simp [Op.lookupswitch.offset]; omega)) (tgt := 84) (by decide) ?_
        clear hq hr
        refine a_aload_n (pc := 84) a 0 dX6_numberOf_84 rfl rfl ?_
        refine a_getR (pc := 85) a 1 1 rfl tb vc6 w2 w6 (by decide) (by decide) 14 (q := 14) rfl rfl dX6_numberOf_85 ?_
        refine a_getI (pc := 88) a 4 4 rfl w7 vc1 w9 w10 (by decide) (by decide) rfl dX6_numberOf_88 ?_
        exact e_i (pc := 91) a hr dX6_numberOf_91 ⟨rfl, h⟩
    · replace h := h.2.2 hq
      clear hq
      refine a_aload_n (pc := 29) a 0 dX6_numberOf_29 rfl rfl ?_
      refine a_getR (pc := 30) a 0 0 rfl tb vc6 w2 w1 (by decide) (by decide) 1 (q := 1) rfl rfl dX6_numberOf_30 ?_
      refine a_getR (pc := 33) a 11 11 rfl w3 vc3 w5 w11 (by decide) (by decide) 11 (q := 12) rfl rfl dX6_numberOf_33 ?_
      refine a_iload_n (pc := 36) a 1 dX6_numberOf_36 rfl rfl ?_
      refine a_iconst (pc := 37) a dX6_numberOf_37 ?_
      refine a_isub (pc := 38) a dX6_numberOf_38 ?_
      refine a_iald (pc := 39) a (tw hinj w12) (by decide) h.1 dX6_numberOf_39 ?_
      replace h := h.2
      exact e_i (pc := 40) a hr dX6_numberOf_40 ⟨rfl, h⟩
  · replace h := h.2.2 hq
    clear hq
    refine a_iload_n (pc := 5) a 1 dX6_numberOf_5 rfl rfl ?_
    refine a_if_lt (pc := 6) a h.1 dX6_numberOf_6 (tgt := 21) (by decide) (fun hq => ?_) (fun hq => ?_)
    · replace h := h.2.1 hq
      clear hq
      refine a_iconst (pc := 21) a dX6_numberOf_21 ?_
      exact e_i (pc := 22) a hr dX6_numberOf_22 ⟨rfl, h⟩
    · replace h := h.2.2 hq
      clear hq
      refine a_aload_n (pc := 9) a 0 dX6_numberOf_9 rfl rfl ?_
      refine a_getR (pc := 10) a 0 0 rfl tb vc6 w2 w1 (by decide) (by decide) 1 (q := 1) rfl rfl dX6_numberOf_10 ?_
      refine a_getR (pc := 13) a 12 12 rfl w3 vc3 w5 w13 (by decide) (by decide) 12 (q := 13) rfl rfl dX6_numberOf_13 ?_
      refine a_iload_n (pc := 16) a 1 dX6_numberOf_16 rfl rfl ?_
      refine a_iald (pc := 17) a (tw hinj w14) (by decide) h.1 dX6_numberOf_17 ?_
      replace h := h.2
      refine a_goto (pc := 18) a dX6_numberOf_18 (tgt := 22) (by decide) ?_
      exact e_i (pc := 22) a hr dX6_numberOf_22 ⟨rfl, h⟩

set_option maxRecDepth 100000 in
set_option maxHeartbeats 4000000 in
theorem c_X6_value {l : Launch} {D : va_G} {X : XI} {ad : Nat → Nat} (hinj : adI ad) (hl0 : l.stackTraces = false) {p1 : Int}  {σ : St} {K : Int → St → Prop} {X2 : Nat → St → Prop} (h : f_X6_value p1 σ K X2) (sz : Nat) : vx_Met l yX6_value (WW (.code yX6_value cX6_value 2 (some .int))) { frames := 7, cells := 1, slots := 6, locals := 147 } (va_Pc [Value.ref (ad 0), vI p1] (WD D X ad σ sz)) (QI D X ad sz K) (XX D X ad sz X2) 1 6 (AA ad sz) := by
  refine ax_start (cc := cX6_value) (maxL := 2) (ret := (some .int)) (own := RX6) [Value.ref (ad 0), vI p1] (by decide) rfl rfl (Nat.le_of_ble_eq_true rfl) hinj hl0 ?_
  intro p e s m below meth c a hr hno hsz
  subst hsz
  have hts := a.1.2.2.2.2
  have tb : tyc 0 (10, 0) := ⟨by decide, rfl⟩
  have w1 := hts (Cond.fieldLink RX6 19 "SightLegend" "legend" "LSightLegend$Legend;") (List.mem_cons_of_mem _ (GL_1 _ (by decide +kernel)))
  have w2 : ∀ w ∈ u_ws RX6 TX6 8, w ∈ WW (.code yX6_value cX6_value 2 (some .int)) := fun w h => List.mem_cons_of_mem _ (inlX6 w h)
  have w3 : tyc 14 (5, 0) := ty_of (d := 14) (t1 := (5, 0)) (by decide +kernel) rfl tb
  have w4 := hts (Cond.fieldLink RX6 10 "SightLegend" "map" "LSightLegend$MapState;") (List.mem_cons_of_mem _ (GL_1 _ (by decide +kernel)))
  have w5 : tyc 1 (7, 0) := ty_of (d := 1) (t1 := (7, 0)) (by decide +kernel) rfl tb
  unfold f_X6_value at h
  refine a_sub (ls1 := [(0, Value.ref (ad 0)), (1, vI p1)]) [0, 1] rfl ?_
  refine a_iload_n (pc := 0) a 1 dX6_value_0 rfl rfl ?_
  refine a_bipush (pc := 1) a dX6_value_1 (by decide) ?_
  refine a_xsv (pc := 3) a (As := [vI p1, vI 12]) (rest := []) (fun sz => c_X6_demandBelow hinj hl0  h sz) (va_cwS 2 hts (gl_S (GL_13 _ (by decide +kernel)) (GL_13 _ (by decide +kernel)) (GL_1 _ (by decide +kernel)) (GL_13 _ (by decide +kernel))) rfl rfl rfl (by decide +kernel) ⟨Nat.le_of_ble_eq_true rfl, Nat.le_of_ble_eq_true rfl⟩) rfl rfl (Nat.le_of_ble_eq_true rfl) ⟨Nat.le_of_ble_eq_true rfl, Nat.le_of_ble_eq_true rfl⟩ dX6_value_3 ?_ ?_
  · rintro E cx ce q9 s9 H1 locs1 la ⟨hs9, hk⟩ hE hP hS hl h1 h2 h3
    subst s9
    exact x_pass a hno (by decide) (by decide) hk hE hP hS h1 h2 h3
  rintro s9 ⟨hs9, h9⟩
  subst s9
  replace h := h9
  clear h9
  refine a_aload_n (pc := 6) a 0 dX6_value_6 rfl rfl ?_
  refine a_getR (pc := 7) a 1 1 rfl tb vc6 w2 w1 (by decide) (by decide) 14 (q := 14) rfl rfl dX6_value_7 ?_
  refine a_aload_n (pc := 10) a 0 dX6_value_10 rfl rfl ?_
  refine a_getR (pc := 11) a 0 0 rfl tb vc6 w2 w4 (by decide) (by decide) 1 (q := 1) rfl rfl dX6_value_11 ?_
  refine a_cvv (pc := 14) a (As := [Value.ref (ad 1)]) (rest := []) w3 vc1 (fun sz => c_X1_make hinj hl0 w3 w5 h sz) (cwV 1 hts (gl_V (GL_7 _ (by decide +kernel)) (GL_7 _ (by decide +kernel)) (GL_7 _ (by decide +kernel)) (GL_1 _ (by decide +kernel)) (GL_7 _ (by decide +kernel))) rfl rfl rfl (by decide +kernel) ⟨Nat.le_of_ble_eq_true rfl, Nat.le_of_ble_eq_true rfl⟩) rfl rfl (Nat.le_of_ble_eq_true rfl) ⟨Nat.le_of_ble_eq_true rfl, Nat.le_of_ble_eq_true rfl⟩ dX6_value_14 ?_
  clear h
  intro s1 h
  refine a_aload_n (pc := 17) a 0 dX6_value_17 rfl rfl ?_
  refine a_iload_n (pc := 18) a 1 dX6_value_18 rfl rfl ?_
  refine a_cvi (pc := 19) a (As := [vI p1]) (rest := []) tb vc6 (fun sz => c_X6_numberOf hinj hl0  h sz) (cwV 1 hts (gl_V (GL_14 _ (by decide +kernel)) (GL_14 _ (by decide +kernel)) (GL_14 _ (by decide +kernel)) (GL_1 _ (by decide +kernel)) (GL_14 _ (by decide +kernel))) rfl rfl rfl (by decide +kernel) ⟨Nat.le_of_ble_eq_true rfl, Nat.le_of_ble_eq_true rfl⟩) rfl rfl (Nat.le_of_ble_eq_true rfl) ⟨Nat.le_of_ble_eq_true rfl, Nat.le_of_ble_eq_true rfl⟩ dX6_value_19 ?_
  rintro x2 s9 ⟨hs9, h9⟩
  subst s9
  replace h := h9
  clear h9
  exact ex_i (pc := 22) a hr dX6_value_22 (by decide) (by decide) h

set_option maxRecDepth 100000 in
set_option maxHeartbeats 4000000 in
theorem c_X6_signFact {l : Launch} {D : va_G} {X : XI} {ad : Nat → Nat} (hinj : adI ad) (hl0 : l.stackTraces = false) {p1 : Int} {p2 : Int}  {σ : St} {K : Int → Prop} (h : f_X6_signFact p1 p2 σ K) (sz : Nat) : Met l yX6_signFact (WW (.code yX6_signFact cX6_signFact 3 (some .int))) { frames := 2, cells := 0, slots := 0, locals := 49 } (va_Pc [Value.ref (ad 0), vI p1, vI p2] (WD D X ad σ sz)) (QI D X ad sz (fun r τ => τ = σ ∧ K r)) 0 0 (AA ad sz) := by
  refine a_start (cc := cX6_signFact) (maxL := 3) (ret := (some .int)) (own := RX6) [Value.ref (ad 0), vI p1, vI p2] (by decide) rfl rfl (Nat.le_of_ble_eq_true rfl) hinj hl0 ?_
  intro p e s m below meth c a hr hsz
  subst hsz
  have hts := a.1.2.2.2.2
  have tb : tyc 0 (10, 0) := ⟨by decide, rfl⟩
  have w1 := hts (Cond.fieldLink RX6 10 "SightLegend" "map" "LSightLegend$MapState;") (List.mem_cons_of_mem _ (GL_1 _ (by decide +kernel)))
  have w2 : ∀ w ∈ u_ws RX6 TX6 8, w ∈ WW (.code yX6_signFact cX6_signFact 3 (some .int)) := fun w h => List.mem_cons_of_mem _ (inlX6 w h)
  have w3 : tyc 1 (7, 0) := ty_of (d := 1) (t1 := (7, 0)) (by decide +kernel) rfl tb
  have w4 := hts (Cond.fieldLink RX6 187 "SightLegend$MapState" "signKind" "[I") (List.mem_cons_of_mem _ (GL_17 _ (by decide +kernel)))
  have w5 : ∀ w ∈ u_ws RX3 TX3 13, w ∈ WW (.code yX6_signFact cX6_signFact 3 (some .int)) := fun w h => List.mem_cons_of_mem _ (inlX3 w h)
  have w6 : tyc 2 (0, 40) := ty_of (d := 1) (t1 := (0, 40)) (by decide +kernel) rfl w3
  have w7 := hts (Cond.fieldLink RX6 72 "SightLegend$MapState" "signColumn" "[I") (List.mem_cons_of_mem _ (GL_17 _ (by decide +kernel)))
  have w8 : tyc 3 (0, 40) := ty_of (d := 2) (t1 := (0, 40)) (by decide +kernel) rfl w3
  have w9 := hts (Cond.fieldLink RX6 76 "SightLegend$MapState" "signRow" "[I") (List.mem_cons_of_mem _ (GL_17 _ (by decide +kernel)))
  have w10 : tyc 4 (0, 40) := ty_of (d := 3) (t1 := (0, 40)) (by decide +kernel) rfl w3
  have w11 := hts (Cond.fieldLink RX6 244 "SightLegend$MapState" "signValue" "[I") (List.mem_cons_of_mem _ (GL_17 _ (by decide +kernel)))
  have w12 : tyc 5 (0, 40) := ty_of (d := 4) (t1 := (0, 40)) (by decide +kernel) rfl w3
  have w13 := hts (Cond.fieldLink RX6 194 "SightLegend$MapState" "signLevel" "[I") (List.mem_cons_of_mem _ (GL_17 _ (by decide +kernel)))
  have w14 : tyc 6 (0, 40) := ty_of (d := 5) (t1 := (0, 40)) (by decide +kernel) rfl w3
  have w15 := hts (Cond.fieldLink RX6 19 "SightLegend" "legend" "LSightLegend$Legend;") (List.mem_cons_of_mem _ (GL_1 _ (by decide +kernel)))
  have w16 : tyc 14 (5, 0) := ty_of (d := 14) (t1 := (5, 0)) (by decide +kernel) rfl tb
  have w17 := hts (Cond.fieldLink RX6 250 "SightLegend$Legend" "shown" "[Z") (List.mem_cons_of_mem _ (GL_17 _ (by decide +kernel)))
  have w18 : ∀ w ∈ u_ws RX1 TX1 12, w ∈ WW (.code yX6_signFact cX6_signFact 3 (some .int)) := fun w h => List.mem_cons_of_mem _ (inlX1 w h)
  have w19 : tyc 15 (1, 40) := ty_of (d := 1) (t1 := (1, 40)) (by decide +kernel) rfl w16
  have w20 := hts (Cond.fieldLink RX6 254 "SightLegend$Legend" "inSight" "[Z") (List.mem_cons_of_mem _ (GL_17 _ (by decide +kernel)))
  have w21 : tyc 16 (1, 40) := ty_of (d := 2) (t1 := (1, 40)) (by decide +kernel) rfl w16
  unfold f_X6_signFact at h
  refine a_sub (ls1 := [(0, Value.ref (ad 0)), (1, vI p1), (2, vI p2)]) [0, 1, 2] rfl ?_
  refine a_iload_n (pc := 0) a 1 dX6_signFact_0 rfl rfl ?_
  refine a_if_lt (pc := 1) a h.1 dX6_signFact_1 (tgt := 10) (by decide) (fun hq => ?_) (fun hq => ?_)
  · replace h := h.2.1 hq
    clear hq
    refine a_iconst (pc := 10) a dX6_signFact_10 ?_
    exact e_i (pc := 11) a hr dX6_signFact_11 ⟨rfl, h⟩
  · replace h := h.2.2 hq
    clear hq
    refine a_iload_n (pc := 4) a 1 dX6_signFact_4 rfl rfl ?_
    refine a_bipush (pc := 5) a dX6_signFact_5 (by decide) ?_
    refine a_icmp_lt (pc := 7) a h.1 ⟨by decide, by decide⟩ dX6_signFact_7 (tgt := 12) (by decide) (fun hq => ?_) (fun hq => ?_)
    · replace h := h.2.1 hq
      clear hq
      refine a_iload_n (pc := 12) a 2 dX6_signFact_12 rfl rfl ?_
      have hsw : p2 = 0 ∨ p2 = 1 ∨ p2 = 2 ∨ p2 = 3 ∨ p2 = 4 ∨ p2 = 5 ∨ p2 = 6 ∨ p2 = 7 ∨ (p2 < 0 ∨ 7 < p2) := by omega
      rcases hsw with hq | hq | hq | hq | hq | hq | hq | hq | hq
      · replace h := h.2.1 hq
        refine a_tsIn (pc := 13) a 0 hq ⟨by decide, by decide⟩ dX6_signFact_13 (by decide) (by decide) rfl (tgt := 60) (by decide) ?_
        clear hq
        refine a_aload_n (pc := 60) a 0 dX6_signFact_60 rfl rfl ?_
        refine a_getR (pc := 61) a 0 0 rfl tb vc6 w2 w1 (by decide) (by decide) 1 (q := 1) rfl rfl dX6_signFact_61 ?_
        refine a_getR (pc := 64) a 0 0 rfl w3 vc3 w5 w4 (by decide) (by decide) 1 (q := 2) rfl rfl dX6_signFact_64 ?_
        refine a_iload_n (pc := 67) a 1 dX6_signFact_67 rfl rfl ?_
        refine a_iald (pc := 68) a (tw hinj w6) (by decide) h.1 dX6_signFact_68 ?_
        replace h := h.2
        exact e_i (pc := 69) a hr dX6_signFact_69 ⟨rfl, h⟩
      · replace h := h.2.2.1 hq
        refine a_tsIn (pc := 13) a 1 hq ⟨by decide, by decide⟩ dX6_signFact_13 (by decide) (by decide) rfl (tgt := 70) (by decide) ?_
        clear hq
        refine a_aload_n (pc := 70) a 0 dX6_signFact_70 rfl rfl ?_
        refine a_getR (pc := 71) a 0 0 rfl tb vc6 w2 w1 (by decide) (by decide) 1 (q := 1) rfl rfl dX6_signFact_71 ?_
        refine a_getR (pc := 74) a 1 1 rfl w3 vc3 w5 w7 (by decide) (by decide) 2 (q := 3) rfl rfl dX6_signFact_74 ?_
        refine a_iload_n (pc := 77) a 1 dX6_signFact_77 rfl rfl ?_
        refine a_iald (pc := 78) a (tw hinj w8) (by decide) h.1 dX6_signFact_78 ?_
        replace h := h.2
        exact e_i (pc := 79) a hr dX6_signFact_79 ⟨rfl, h⟩
      · replace h := h.2.2.2.1 hq
        refine a_tsIn (pc := 13) a 2 hq ⟨by decide, by decide⟩ dX6_signFact_13 (by decide) (by decide) rfl (tgt := 80) (by decide) ?_
        clear hq
        refine a_aload_n (pc := 80) a 0 dX6_signFact_80 rfl rfl ?_
        refine a_getR (pc := 81) a 0 0 rfl tb vc6 w2 w1 (by decide) (by decide) 1 (q := 1) rfl rfl dX6_signFact_81 ?_
        refine a_getR (pc := 84) a 2 2 rfl w3 vc3 w5 w9 (by decide) (by decide) 3 (q := 4) rfl rfl dX6_signFact_84 ?_
        refine a_iload_n (pc := 87) a 1 dX6_signFact_87 rfl rfl ?_
        refine a_iald (pc := 88) a (tw hinj w10) (by decide) h.1 dX6_signFact_88 ?_
        replace h := h.2
        exact e_i (pc := 89) a hr dX6_signFact_89 ⟨rfl, h⟩
      · replace h := h.2.2.2.2.1 hq
        refine a_tsIn (pc := 13) a 3 hq ⟨by decide, by decide⟩ dX6_signFact_13 (by decide) (by decide) rfl (tgt := 90) (by decide) ?_
        clear hq
        refine a_aload_n (pc := 90) a 0 dX6_signFact_90 rfl rfl ?_
        refine a_getR (pc := 91) a 0 0 rfl tb vc6 w2 w1 (by decide) (by decide) 1 (q := 1) rfl rfl dX6_signFact_91 ?_
        refine a_getR (pc := 94) a 3 3 rfl w3 vc3 w5 w11 (by decide) (by decide) 4 (q := 5) rfl rfl dX6_signFact_94 ?_
        refine a_iload_n (pc := 97) a 1 dX6_signFact_97 rfl rfl ?_
        refine a_iald (pc := 98) a (tw hinj w12) (by decide) h.1 dX6_signFact_98 ?_
        replace h := h.2
        exact e_i (pc := 99) a hr dX6_signFact_99 ⟨rfl, h⟩
      · replace h := h.2.2.2.2.2.1 hq
        refine a_tsIn (pc := 13) a 4 hq ⟨by decide, by decide⟩ dX6_signFact_13 (by decide) (by decide) rfl (tgt := 100) (by decide) ?_
        clear hq
        refine a_aload_n (pc := 100) a 0 dX6_signFact_100 rfl rfl ?_
        refine a_getR (pc := 101) a 0 0 rfl tb vc6 w2 w1 (by decide) (by decide) 1 (q := 1) rfl rfl dX6_signFact_101 ?_
        refine a_getR (pc := 104) a 4 4 rfl w3 vc3 w5 w13 (by decide) (by decide) 5 (q := 6) rfl rfl dX6_signFact_104 ?_
        refine a_iload_n (pc := 107) a 1 dX6_signFact_107 rfl rfl ?_
        refine a_iald (pc := 108) a (tw hinj w14) (by decide) h.1 dX6_signFact_108 ?_
        replace h := h.2
        exact e_i (pc := 109) a hr dX6_signFact_109 ⟨rfl, h⟩
      · replace h := h.2.2.2.2.2.2.1 hq
        refine a_tsIn (pc := 13) a 5 hq ⟨by decide, by decide⟩ dX6_signFact_13 (by decide) (by decide) rfl (tgt := 110) (by decide) ?_
        clear hq
        refine a_aload_n (pc := 110) a 0 dX6_signFact_110 rfl rfl ?_
        refine a_getR (pc := 111) a 0 0 rfl tb vc6 w2 w1 (by decide) (by decide) 1 (q := 1) rfl rfl dX6_signFact_111 ?_
        refine a_iload_n (pc := 114) a 1 dX6_signFact_114 rfl rfl ?_
        refine a_cvi (pc := 115) a (As := [vI p1]) (rest := []) w3 vc3 (fun sz => c_X3_classOf hinj hl0 w3 h sz) (cwV 1 hts (gl_V (GL_17 _ (by decide +kernel)) (GL_10 _ (by decide +kernel)) (GL_10 _ (by decide +kernel)) (GL_1 _ (by decide +kernel)) (GL_10 _ (by decide +kernel))) rfl rfl rfl (by decide +kernel) ⟨Nat.le_of_ble_eq_true rfl, Nat.le_of_ble_eq_true rfl⟩) rfl rfl (Nat.le_of_ble_eq_true rfl) ⟨Nat.le_of_ble_eq_true rfl, Nat.le_of_ble_eq_true rfl⟩ dX6_signFact_115 ?_
        rintro x1 s9 ⟨hs9, h9⟩
        subst s9
        replace h := h9
        clear h9
        exact e_i (pc := 118) a hr dX6_signFact_118 ⟨rfl, h⟩
      · replace h := h.2.2.2.2.2.2.2.1 hq
        refine a_tsIn (pc := 13) a 6 hq ⟨by decide, by decide⟩ dX6_signFact_13 (by decide) (by decide) rfl (tgt := 119) (by decide) ?_
        clear hq
        refine a_aload_n (pc := 119) a 0 dX6_signFact_119 rfl rfl ?_
        refine a_getR (pc := 120) a 1 1 rfl tb vc6 w2 w15 (by decide) (by decide) 14 (q := 14) rfl rfl dX6_signFact_120 ?_
        refine a_getR (pc := 123) a 1 1 rfl w16 vc1 w18 w17 (by decide) (by decide) 1 (q := 15) rfl rfl dX6_signFact_123 ?_
        refine a_iload_n (pc := 126) a 1 dX6_signFact_126 rfl rfl ?_
        refine a_zald (pc := 127) a (tw hinj w19) (by decide) h.1 dX6_signFact_127 ?_
        replace h := h.2
        refine a_if_eq (pc := 128) a h.1 dX6_signFact_128 (tgt := 135) (by decide) (fun hq => ?_) (fun hq => ?_)
        · replace h := h.2.1 hq
          clear hq
          refine a_iconst (pc := 135) a dX6_signFact_135 ?_
          exact e_i (pc := 136) a hr dX6_signFact_136 ⟨rfl, h⟩
        · replace h := h.2.2 hq
          clear hq
          refine a_iconst (pc := 131) a dX6_signFact_131 ?_
          refine a_goto (pc := 132) a dX6_signFact_132 (tgt := 136) (by decide) ?_
          exact e_i (pc := 136) a hr dX6_signFact_136 ⟨rfl, h⟩
      · replace h := h.2.2.2.2.2.2.2.2.1 hq
        refine a_tsIn (pc := 13) a 7 hq ⟨by decide, by decide⟩ dX6_signFact_13 (by decide) (by decide) rfl (tgt := 137) (by decide) ?_
        clear hq
        refine a_aload_n (pc := 137) a 0 dX6_signFact_137 rfl rfl ?_
        refine a_getR (pc := 138) a 1 1 rfl tb vc6 w2 w15 (by decide) (by decide) 14 (q := 14) rfl rfl dX6_signFact_138 ?_
        refine a_getR (pc := 141) a 2 2 rfl w16 vc1 w18 w20 (by decide) (by decide) 2 (q := 16) rfl rfl dX6_signFact_141 ?_
        refine a_iload_n (pc := 144) a 1 dX6_signFact_144 rfl rfl ?_
        refine a_zald (pc := 145) a (tw hinj w21) (by decide) h.1 dX6_signFact_145 ?_
        replace h := h.2
        refine a_if_eq (pc := 146) a h.1 dX6_signFact_146 (tgt := 153) (by decide) (fun hq => ?_) (fun hq => ?_)
        · replace h := h.2.1 hq
          clear hq
          refine a_iconst (pc := 153) a dX6_signFact_153 ?_
          exact e_i (pc := 154) a hr dX6_signFact_154 ⟨rfl, h⟩
        · replace h := h.2.2 hq
          clear hq
          refine a_iconst (pc := 149) a dX6_signFact_149 ?_
          refine a_goto (pc := 150) a dX6_signFact_150 (tgt := 154) (by decide) ?_
          exact e_i (pc := 154) a hr dX6_signFact_154 ⟨rfl, h⟩
      · have hr := h.1
        replace h := h.2.2.2.2.2.2.2.2.2 hq
        refine a_tsOut (pc := 13) a hr dX6_signFact_13 hq (tgt := 155) (by decide) ?_
        clear hq hr
        refine a_aload_n (pc := 155) a 0 dX6_signFact_155 rfl rfl ?_
        refine a_getR (pc := 156) a 1 1 rfl tb vc6 w2 w15 (by decide) (by decide) 14 (q := 14) rfl rfl dX6_signFact_156 ?_
        refine a_aload_n (pc := 159) a 0 dX6_signFact_159 rfl rfl ?_
        refine a_getR (pc := 160) a 0 0 rfl tb vc6 w2 w1 (by decide) (by decide) 1 (q := 1) rfl rfl dX6_signFact_160 ?_
        refine a_iload_n (pc := 163) a 1 dX6_signFact_163 rfl rfl ?_
        refine a_cvi (pc := 164) a (As := [Value.ref (ad 1), vI p1]) (rest := []) w16 vc1 (fun sz => c_X1_lineOf hinj hl0 w16 w3 h sz) (cwV 2 hts (gl_V (GL_17 _ (by decide +kernel)) (GL_17 _ (by decide +kernel)) (GL_17 _ (by decide +kernel)) (GL_1 _ (by decide +kernel)) (GL_17 _ (by decide +kernel))) rfl rfl rfl (by decide +kernel) ⟨Nat.le_of_ble_eq_true rfl, Nat.le_of_ble_eq_true rfl⟩) rfl rfl (Nat.le_of_ble_eq_true rfl) ⟨Nat.le_of_ble_eq_true rfl, Nat.le_of_ble_eq_true rfl⟩ dX6_signFact_164 ?_
        rintro x2 s9 ⟨hs9, h9⟩
        subst s9
        replace h := h9
        clear h9
        exact e_i (pc := 167) a hr dX6_signFact_167 ⟨rfl, h⟩
    · replace h := h.2.2 hq
      clear hq
      refine a_iconst (pc := 10) a dX6_signFact_10 ?_
      exact e_i (pc := 11) a hr dX6_signFact_11 ⟨rfl, h⟩

set_option maxRecDepth 100000 in
set_option maxHeartbeats 4000000 in
theorem c_X6_sign {l : Launch} {D : va_G} {X : XI} {ad : Nat → Nat} (hinj : adI ad) (hl0 : l.stackTraces = false) {p1 : Int} {p2 : Int}  {σ : St} {K : Int → St → Prop} {X2 : Nat → St → Prop} (h : f_X6_sign p1 p2 σ K X2) (sz : Nat) : vx_Met l yX6_sign (WW (.code yX6_sign cX6_sign 3 (some .int))) { frames := 7, cells := 2, slots := 12, locals := 147 } (va_Pc [Value.ref (ad 0), vI p1, vI p2] (WD D X ad σ sz)) (QI D X ad sz K) (XX D X ad sz X2) 2 12 (AA ad sz) := by
  refine ax_start (cc := cX6_sign) (maxL := 3) (ret := (some .int)) (own := RX6) [Value.ref (ad 0), vI p1, vI p2] (by decide) rfl rfl (Nat.le_of_ble_eq_true rfl) hinj hl0 ?_
  intro p e s m below meth c a hr hno hsz
  subst hsz
  have hts := a.1.2.2.2.2
  have tb : tyc 0 (10, 0) := ⟨by decide, rfl⟩
  have w1 := hts (Cond.fieldLink RX6 19 "SightLegend" "legend" "LSightLegend$Legend;") (List.mem_cons_of_mem _ (GL_1 _ (by decide +kernel)))
  have w2 : ∀ w ∈ u_ws RX6 TX6 8, w ∈ WW (.code yX6_sign cX6_sign 3 (some .int)) := fun w h => List.mem_cons_of_mem _ (inlX6 w h)
  have w3 : tyc 14 (5, 0) := ty_of (d := 14) (t1 := (5, 0)) (by decide +kernel) rfl tb
  have w4 := hts (Cond.fieldLink RX6 10 "SightLegend" "map" "LSightLegend$MapState;") (List.mem_cons_of_mem _ (GL_1 _ (by decide +kernel)))
  have w5 : tyc 1 (7, 0) := ty_of (d := 1) (t1 := (7, 0)) (by decide +kernel) rfl tb
  unfold f_X6_sign at h
  refine a_sub (ls1 := [(0, Value.ref (ad 0)), (1, vI p1), (2, vI p2)]) [0, 1, 2] rfl ?_
  refine a_aload_n (pc := 0) a 0 dX6_sign_0 rfl rfl ?_
  refine a_iload_n (pc := 1) a 1 dX6_sign_1 rfl rfl ?_
  refine a_xvv (pc := 2) a (As := [vI p1]) (rest := []) tb vc6 (fun sz => c_X6_demandSign hinj hl0  h sz) (cwV 1 hts (gl_V (GL_16 _ (by decide +kernel)) (GL_16 _ (by decide +kernel)) (GL_16 _ (by decide +kernel)) (GL_1 _ (by decide +kernel)) (GL_17 _ (by decide +kernel))) rfl rfl rfl (by decide +kernel) ⟨Nat.le_of_ble_eq_true rfl, Nat.le_of_ble_eq_true rfl⟩) rfl rfl (Nat.le_of_ble_eq_true rfl) ⟨Nat.le_of_ble_eq_true rfl, Nat.le_of_ble_eq_true rfl⟩ dX6_sign_2 ?_ ?_
  · rintro E cx ce q9 s9 H1 locs1 la ⟨hs9, hk⟩ hE hP hS hl h1 h2 h3
    subst s9
    exact x_pass a hno (by decide) (by decide) hk hE hP hS h1 h2 h3
  rintro s9 ⟨hs9, h9⟩
  subst s9
  replace h := h9
  clear h9
  refine a_iload_n (pc := 5) a 2 dX6_sign_5 rfl rfl ?_
  refine a_bipush (pc := 6) a dX6_sign_6 (by decide) ?_
  refine a_xsv (pc := 8) a (As := [vI p2, vI 9]) (rest := []) (fun sz => c_X6_demandBelow hinj hl0  h sz) (va_cwS 2 hts (gl_S (GL_13 _ (by decide +kernel)) (GL_13 _ (by decide +kernel)) (GL_1 _ (by decide +kernel)) (GL_13 _ (by decide +kernel))) rfl rfl rfl (by decide +kernel) ⟨Nat.le_of_ble_eq_true rfl, Nat.le_of_ble_eq_true rfl⟩) rfl rfl (Nat.le_of_ble_eq_true rfl) ⟨Nat.le_of_ble_eq_true rfl, Nat.le_of_ble_eq_true rfl⟩ dX6_sign_8 ?_ ?_
  · rintro E cx ce q9 s9 H1 locs1 la ⟨hs9, hk⟩ hE hP hS hl h1 h2 h3
    subst s9
    exact x_pass a hno (by decide) (by decide) hk hE hP hS h1 h2 h3
  rintro s9 ⟨hs9, h9⟩
  subst s9
  replace h := h9
  clear h9
  refine a_aload_n (pc := 11) a 0 dX6_sign_11 rfl rfl ?_
  refine a_getR (pc := 12) a 1 1 rfl tb vc6 w2 w1 (by decide) (by decide) 14 (q := 14) rfl rfl dX6_sign_12 ?_
  refine a_aload_n (pc := 15) a 0 dX6_sign_15 rfl rfl ?_
  refine a_getR (pc := 16) a 0 0 rfl tb vc6 w2 w4 (by decide) (by decide) 1 (q := 1) rfl rfl dX6_sign_16 ?_
  refine a_cvv (pc := 19) a (As := [Value.ref (ad 1)]) (rest := []) w3 vc1 (fun sz => c_X1_make hinj hl0 w3 w5 h sz) (cwV 1 hts (gl_V (GL_7 _ (by decide +kernel)) (GL_7 _ (by decide +kernel)) (GL_7 _ (by decide +kernel)) (GL_1 _ (by decide +kernel)) (GL_7 _ (by decide +kernel))) rfl rfl rfl (by decide +kernel) ⟨Nat.le_of_ble_eq_true rfl, Nat.le_of_ble_eq_true rfl⟩) rfl rfl (Nat.le_of_ble_eq_true rfl) ⟨Nat.le_of_ble_eq_true rfl, Nat.le_of_ble_eq_true rfl⟩ dX6_sign_19 ?_
  clear h
  intro s1 h
  refine a_aload_n (pc := 22) a 0 dX6_sign_22 rfl rfl ?_
  refine a_iload_n (pc := 23) a 1 dX6_sign_23 rfl rfl ?_
  refine a_iload_n (pc := 24) a 2 dX6_sign_24 rfl rfl ?_
  refine a_cvi (pc := 25) a (As := [vI p1, vI p2]) (rest := []) tb vc6 (fun sz => c_X6_signFact hinj hl0  h sz) (cwV 2 hts (gl_V (GL_17 _ (by decide +kernel)) (GL_17 _ (by decide +kernel)) (GL_17 _ (by decide +kernel)) (GL_1 _ (by decide +kernel)) (GL_17 _ (by decide +kernel))) rfl rfl rfl (by decide +kernel) ⟨Nat.le_of_ble_eq_true rfl, Nat.le_of_ble_eq_true rfl⟩) rfl rfl (Nat.le_of_ble_eq_true rfl) ⟨Nat.le_of_ble_eq_true rfl, Nat.le_of_ble_eq_true rfl⟩ dX6_sign_25 ?_
  rintro x2 s9 ⟨hs9, h9⟩
  subst s9
  replace h := h9
  clear h9
  exact ex_i (pc := 28) a hr dX6_sign_28 (by decide) (by decide) h

set_option maxRecDepth 100000 in
set_option maxHeartbeats 4000000 in
theorem c_X6_kindFact {l : Launch} {D : va_G} {X : XI} {ad : Nat → Nat} (hinj : adI ad) (hl0 : l.stackTraces = false) {p1 : Int} {p2 : Int}  {σ : St} {K : Int → Prop} (h : f_X6_kindFact p1 p2 σ K) (sz : Nat) : Met l yX6_kindFact (WW (.code yX6_kindFact cX6_kindFact 3 (some .int))) { frames := 1, cells := 0, slots := 0, locals := 23 } (va_Pc [Value.ref (ad 0), vI p1, vI p2] (WD D X ad σ sz)) (QI D X ad sz (fun r τ => τ = σ ∧ K r)) 0 0 (AA ad sz) := by
  refine a_start (cc := cX6_kindFact) (maxL := 3) (ret := (some .int)) (own := RX6) [Value.ref (ad 0), vI p1, vI p2] (by decide) rfl rfl (Nat.le_of_ble_eq_true rfl) hinj hl0 ?_
  intro p e s m below meth c a hr hsz
  subst hsz
  have hts := a.1.2.2.2.2
  have tb : tyc 0 (10, 0) := ⟨by decide, rfl⟩
  have w1 := hts (Cond.fieldLink RX6 10 "SightLegend" "map" "LSightLegend$MapState;") (List.mem_cons_of_mem _ (GL_1 _ (by decide +kernel)))
  have w2 : ∀ w ∈ u_ws RX6 TX6 8, w ∈ WW (.code yX6_kindFact cX6_kindFact 3 (some .int)) := fun w h => List.mem_cons_of_mem _ (inlX6 w h)
  have w3 : tyc 1 (7, 0) := ty_of (d := 1) (t1 := (7, 0)) (by decide +kernel) rfl tb
  have w4 := hts (Cond.fieldLink RX6 100 "SightLegend$MapState" "rank" "[I") (List.mem_cons_of_mem _ (GL_18 _ (by decide +kernel)))
  have w5 : ∀ w ∈ u_ws RX3 TX3 13, w ∈ WW (.code yX6_kindFact cX6_kindFact 3 (some .int)) := fun w h => List.mem_cons_of_mem _ (inlX3 w h)
  have w6 : tyc 7 (0, 12) := ty_of (d := 6) (t1 := (0, 12)) (by decide +kernel) rfl w3
  have w7 := hts (Cond.fieldLink RX6 103 "SightLegend$MapState" "group" "[I") (List.mem_cons_of_mem _ (GL_18 _ (by decide +kernel)))
  have w8 : tyc 8 (0, 12) := ty_of (d := 7) (t1 := (0, 12)) (by decide +kernel) rfl w3
  have w9 := hts (Cond.fieldLink RX6 120 "SightLegend$MapState" "limitCount" "[I") (List.mem_cons_of_mem _ (GL_18 _ (by decide +kernel)))
  have w10 : tyc 9 (0, 12) := ty_of (d := 8) (t1 := (0, 12)) (by decide +kernel) rfl w3
  have w11 := hts (Cond.fieldLink RX6 19 "SightLegend" "legend" "LSightLegend$Legend;") (List.mem_cons_of_mem _ (GL_1 _ (by decide +kernel)))
  have w12 : tyc 14 (5, 0) := ty_of (d := 14) (t1 := (5, 0)) (by decide +kernel) rfl tb
  have w13 := hts (Cond.fieldLink RX6 146 "SightLegend$Legend" "now" "LSightLegend$Lines;") (List.mem_cons_of_mem _ (GL_7 _ (by decide +kernel)))
  have w14 : ∀ w ∈ u_ws RX1 TX1 12, w ∈ WW (.code yX6_kindFact cX6_kindFact 3 (some .int)) := fun w h => List.mem_cons_of_mem _ (inlX1 w h)
  have w15 : tyc 24 (6, 0) := ty_of (d := 10) (t1 := (6, 0)) (by decide +kernel) rfl w12
  have w16 := hts (Cond.fieldLink RX6 264 "SightLegend$Legend" "ranges" "LSightLegend$Ranges;") (List.mem_cons_of_mem _ (GL_18 _ (by decide +kernel)))
  have w17 : tyc 17 (8, 0) := ty_of (d := 3) (t1 := (8, 0)) (by decide +kernel) rfl w12
  have w18 := hts (Cond.fieldLink RX6 268 "SightLegend$Ranges" "total" "[I") (List.mem_cons_of_mem _ (GL_18 _ (by decide +kernel)))
  have w19 : ∀ w ∈ u_ws RX4 TX4 6, w ∈ WW (.code yX6_kindFact cX6_kindFact 3 (some .int)) := fun w h => List.mem_cons_of_mem _ (inlX4 w h)
  have w20 : tyc 18 (0, 12) := ty_of (d := 1) (t1 := (0, 12)) (by decide +kernel) rfl w17
  unfold f_X6_kindFact at h
  refine a_sub (ls1 := [(0, Value.ref (ad 0)), (1, vI p1), (2, vI p2)]) [0, 1, 2] rfl ?_
  refine a_iload_n (pc := 0) a 1 dX6_kindFact_0 rfl rfl ?_
  refine a_if_lt (pc := 1) a h.1 dX6_kindFact_1 (tgt := 10) (by decide) (fun hq => ?_) (fun hq => ?_)
  · replace h := h.2.1 hq
    clear hq
    refine a_iconst (pc := 10) a dX6_kindFact_10 ?_
    exact e_i (pc := 11) a hr dX6_kindFact_11 ⟨rfl, h⟩
  · replace h := h.2.2 hq
    clear hq
    refine a_iload_n (pc := 4) a 1 dX6_kindFact_4 rfl rfl ?_
    refine a_bipush (pc := 5) a dX6_kindFact_5 (by decide) ?_
    refine a_icmp_lt (pc := 7) a h.1 ⟨by decide, by decide⟩ dX6_kindFact_7 (tgt := 12) (by decide) (fun hq => ?_) (fun hq => ?_)
    · replace h := h.2.1 hq
      clear hq
      refine a_iload_n (pc := 12) a 2 dX6_kindFact_12 rfl rfl ?_
      have hsw : p2 = 0 ∨ p2 = 1 ∨ p2 = 2 ∨ p2 = 3 ∨ p2 = 4 ∨ p2 = 5 ∨ p2 = 6 ∨ p2 = 7 ∨ p2 = 8 ∨ p2 = 9 ∨ (p2 < 0 ∨ 9 < p2) := by omega
      rcases hsw with hq | hq | hq | hq | hq | hq | hq | hq | hq | hq | hq
      · replace h := h.2.1 hq
        refine a_tsIn (pc := 13) a 0 hq ⟨by decide, by decide⟩ dX6_kindFact_13 (by decide) (by decide) rfl (tgt := 68) (by decide) ?_
        clear hq
        refine a_aload_n (pc := 68) a 0 dX6_kindFact_68 rfl rfl ?_
        refine a_getR (pc := 69) a 0 0 rfl tb vc6 w2 w1 (by decide) (by decide) 1 (q := 1) rfl rfl dX6_kindFact_69 ?_
        refine a_getR (pc := 72) a 6 6 rfl w3 vc3 w5 w4 (by decide) (by decide) 6 (q := 7) rfl rfl dX6_kindFact_72 ?_
        refine a_iload_n (pc := 75) a 1 dX6_kindFact_75 rfl rfl ?_
        refine a_iald (pc := 76) a (tw hinj w6) (by decide) h.1 dX6_kindFact_76 ?_
        replace h := h.2
        exact e_i (pc := 77) a hr dX6_kindFact_77 ⟨rfl, h⟩
      · replace h := h.2.2.1 hq
        refine a_tsIn (pc := 13) a 1 hq ⟨by decide, by decide⟩ dX6_kindFact_13 (by decide) (by decide) rfl (tgt := 78) (by decide) ?_
        clear hq
        refine a_aload_n (pc := 78) a 0 dX6_kindFact_78 rfl rfl ?_
        refine a_getR (pc := 79) a 0 0 rfl tb vc6 w2 w1 (by decide) (by decide) 1 (q := 1) rfl rfl dX6_kindFact_79 ?_
        refine a_getR (pc := 82) a 7 7 rfl w3 vc3 w5 w7 (by decide) (by decide) 7 (q := 8) rfl rfl dX6_kindFact_82 ?_
        refine a_iload_n (pc := 85) a 1 dX6_kindFact_85 rfl rfl ?_
        refine a_iald (pc := 86) a (tw hinj w8) (by decide) h.1 dX6_kindFact_86 ?_
        replace h := h.2
        exact e_i (pc := 87) a hr dX6_kindFact_87 ⟨rfl, h⟩
      · replace h := h.2.2.2.1 hq
        refine a_tsIn (pc := 13) a 2 hq ⟨by decide, by decide⟩ dX6_kindFact_13 (by decide) (by decide) rfl (tgt := 88) (by decide) ?_
        clear hq
        refine a_aload_n (pc := 88) a 0 dX6_kindFact_88 rfl rfl ?_
        refine a_getR (pc := 89) a 0 0 rfl tb vc6 w2 w1 (by decide) (by decide) 1 (q := 1) rfl rfl dX6_kindFact_89 ?_
        refine a_getR (pc := 92) a 8 8 rfl w3 vc3 w5 w9 (by decide) (by decide) 8 (q := 9) rfl rfl dX6_kindFact_92 ?_
        refine a_iload_n (pc := 95) a 1 dX6_kindFact_95 rfl rfl ?_
        refine a_iald (pc := 96) a (tw hinj w10) (by decide) h.1 dX6_kindFact_96 ?_
        replace h := h.2
        exact e_i (pc := 97) a hr dX6_kindFact_97 ⟨rfl, h⟩
      · replace h := h.2.2.2.2.1 hq
        refine a_tsIn (pc := 13) a 3 hq ⟨by decide, by decide⟩ dX6_kindFact_13 (by decide) (by decide) rfl (tgt := 123) (by decide) ?_
        clear hq
        refine a_aload_n (pc := 123) a 0 dX6_kindFact_123 rfl rfl ?_
        refine a_getR (pc := 124) a 0 0 rfl tb vc6 w2 w1 (by decide) (by decide) 1 (q := 1) rfl rfl dX6_kindFact_124 ?_
        refine a_iload_n (pc := 127) a 1 dX6_kindFact_127 rfl rfl ?_
        refine a_iload_n (pc := 128) a 2 dX6_kindFact_128 rfl rfl ?_
        refine a_iconst (pc := 129) a dX6_kindFact_129 ?_
        refine a_isub (pc := 130) a dX6_kindFact_130 ?_
        refine a_cvi (pc := 131) a (As := [vI p1, vI (p2 - 3)]) (rest := []) w3 vc3 (fun sz => c_X3_limitAt hinj hl0 w3 h sz) (cwV 2 hts (gl_V (GL_19 _ (by decide +kernel)) (GL_19 _ (by decide +kernel)) (GL_19 _ (by decide +kernel)) (GL_1 _ (by decide +kernel)) (GL_19 _ (by decide +kernel))) rfl rfl rfl (by decide +kernel) ⟨Nat.le_of_ble_eq_true rfl, Nat.le_of_ble_eq_true rfl⟩) rfl rfl (Nat.le_of_ble_eq_true rfl) ⟨Nat.le_of_ble_eq_true rfl, Nat.le_of_ble_eq_true rfl⟩ dX6_kindFact_131 ?_
        rintro x1 s9 ⟨hs9, h9⟩
        subst s9
        replace h := h9
        clear h9
        exact e_i (pc := 134) a hr dX6_kindFact_134 ⟨rfl, h⟩
      · replace h := h.2.2.2.2.2.1 hq
        refine a_tsIn (pc := 13) a 4 hq ⟨by decide, by decide⟩ dX6_kindFact_13 (by decide) (by decide) rfl (tgt := 123) (by decide) ?_
        clear hq
        refine a_aload_n (pc := 123) a 0 dX6_kindFact_123 rfl rfl ?_
        refine a_getR (pc := 124) a 0 0 rfl tb vc6 w2 w1 (by decide) (by decide) 1 (q := 1) rfl rfl dX6_kindFact_124 ?_
        refine a_iload_n (pc := 127) a 1 dX6_kindFact_127 rfl rfl ?_
        refine a_iload_n (pc := 128) a 2 dX6_kindFact_128 rfl rfl ?_
        refine a_iconst (pc := 129) a dX6_kindFact_129 ?_
        refine a_isub (pc := 130) a dX6_kindFact_130 ?_
        refine a_cvi (pc := 131) a (As := [vI p1, vI (p2 - 3)]) (rest := []) w3 vc3 (fun sz => c_X3_limitAt hinj hl0 w3 h sz) (cwV 2 hts (gl_V (GL_19 _ (by decide +kernel)) (GL_19 _ (by decide +kernel)) (GL_19 _ (by decide +kernel)) (GL_1 _ (by decide +kernel)) (GL_19 _ (by decide +kernel))) rfl rfl rfl (by decide +kernel) ⟨Nat.le_of_ble_eq_true rfl, Nat.le_of_ble_eq_true rfl⟩) rfl rfl (Nat.le_of_ble_eq_true rfl) ⟨Nat.le_of_ble_eq_true rfl, Nat.le_of_ble_eq_true rfl⟩ dX6_kindFact_131 ?_
        rintro x2 s9 ⟨hs9, h9⟩
        subst s9
        replace h := h9
        clear h9
        exact e_i (pc := 134) a hr dX6_kindFact_134 ⟨rfl, h⟩
      · replace h := h.2.2.2.2.2.2.1 hq
        refine a_tsIn (pc := 13) a 5 hq ⟨by decide, by decide⟩ dX6_kindFact_13 (by decide) (by decide) rfl (tgt := 123) (by decide) ?_
        clear hq
        refine a_aload_n (pc := 123) a 0 dX6_kindFact_123 rfl rfl ?_
        refine a_getR (pc := 124) a 0 0 rfl tb vc6 w2 w1 (by decide) (by decide) 1 (q := 1) rfl rfl dX6_kindFact_124 ?_
        refine a_iload_n (pc := 127) a 1 dX6_kindFact_127 rfl rfl ?_
        refine a_iload_n (pc := 128) a 2 dX6_kindFact_128 rfl rfl ?_
        refine a_iconst (pc := 129) a dX6_kindFact_129 ?_
        refine a_isub (pc := 130) a dX6_kindFact_130 ?_
        refine a_cvi (pc := 131) a (As := [vI p1, vI (p2 - 3)]) (rest := []) w3 vc3 (fun sz => c_X3_limitAt hinj hl0 w3 h sz) (cwV 2 hts (gl_V (GL_19 _ (by decide +kernel)) (GL_19 _ (by decide +kernel)) (GL_19 _ (by decide +kernel)) (GL_1 _ (by decide +kernel)) (GL_19 _ (by decide +kernel))) rfl rfl rfl (by decide +kernel) ⟨Nat.le_of_ble_eq_true rfl, Nat.le_of_ble_eq_true rfl⟩) rfl rfl (Nat.le_of_ble_eq_true rfl) ⟨Nat.le_of_ble_eq_true rfl, Nat.le_of_ble_eq_true rfl⟩ dX6_kindFact_131 ?_
        rintro x3 s9 ⟨hs9, h9⟩
        subst s9
        replace h := h9
        clear h9
        exact e_i (pc := 134) a hr dX6_kindFact_134 ⟨rfl, h⟩
      · replace h := h.2.2.2.2.2.2.2.1 hq
        refine a_tsIn (pc := 13) a 6 hq ⟨by decide, by decide⟩ dX6_kindFact_13 (by decide) (by decide) rfl (tgt := 123) (by decide) ?_
        clear hq
        refine a_aload_n (pc := 123) a 0 dX6_kindFact_123 rfl rfl ?_
        refine a_getR (pc := 124) a 0 0 rfl tb vc6 w2 w1 (by decide) (by decide) 1 (q := 1) rfl rfl dX6_kindFact_124 ?_
        refine a_iload_n (pc := 127) a 1 dX6_kindFact_127 rfl rfl ?_
        refine a_iload_n (pc := 128) a 2 dX6_kindFact_128 rfl rfl ?_
        refine a_iconst (pc := 129) a dX6_kindFact_129 ?_
        refine a_isub (pc := 130) a dX6_kindFact_130 ?_
        refine a_cvi (pc := 131) a (As := [vI p1, vI (p2 - 3)]) (rest := []) w3 vc3 (fun sz => c_X3_limitAt hinj hl0 w3 h sz) (cwV 2 hts (gl_V (GL_19 _ (by decide +kernel)) (GL_19 _ (by decide +kernel)) (GL_19 _ (by decide +kernel)) (GL_1 _ (by decide +kernel)) (GL_19 _ (by decide +kernel))) rfl rfl rfl (by decide +kernel) ⟨Nat.le_of_ble_eq_true rfl, Nat.le_of_ble_eq_true rfl⟩) rfl rfl (Nat.le_of_ble_eq_true rfl) ⟨Nat.le_of_ble_eq_true rfl, Nat.le_of_ble_eq_true rfl⟩ dX6_kindFact_131 ?_
        rintro x4 s9 ⟨hs9, h9⟩
        subst s9
        replace h := h9
        clear h9
        exact e_i (pc := 134) a hr dX6_kindFact_134 ⟨rfl, h⟩
      · replace h := h.2.2.2.2.2.2.2.2.1 hq
        refine a_tsIn (pc := 13) a 7 hq ⟨by decide, by decide⟩ dX6_kindFact_13 (by decide) (by decide) rfl (tgt := 123) (by decide) ?_
        clear hq
        refine a_aload_n (pc := 123) a 0 dX6_kindFact_123 rfl rfl ?_
        refine a_getR (pc := 124) a 0 0 rfl tb vc6 w2 w1 (by decide) (by decide) 1 (q := 1) rfl rfl dX6_kindFact_124 ?_
        refine a_iload_n (pc := 127) a 1 dX6_kindFact_127 rfl rfl ?_
        refine a_iload_n (pc := 128) a 2 dX6_kindFact_128 rfl rfl ?_
        refine a_iconst (pc := 129) a dX6_kindFact_129 ?_
        refine a_isub (pc := 130) a dX6_kindFact_130 ?_
        refine a_cvi (pc := 131) a (As := [vI p1, vI (p2 - 3)]) (rest := []) w3 vc3 (fun sz => c_X3_limitAt hinj hl0 w3 h sz) (cwV 2 hts (gl_V (GL_19 _ (by decide +kernel)) (GL_19 _ (by decide +kernel)) (GL_19 _ (by decide +kernel)) (GL_1 _ (by decide +kernel)) (GL_19 _ (by decide +kernel))) rfl rfl rfl (by decide +kernel) ⟨Nat.le_of_ble_eq_true rfl, Nat.le_of_ble_eq_true rfl⟩) rfl rfl (Nat.le_of_ble_eq_true rfl) ⟨Nat.le_of_ble_eq_true rfl, Nat.le_of_ble_eq_true rfl⟩ dX6_kindFact_131 ?_
        rintro x5 s9 ⟨hs9, h9⟩
        subst s9
        replace h := h9
        clear h9
        exact e_i (pc := 134) a hr dX6_kindFact_134 ⟨rfl, h⟩
      · replace h := h.2.2.2.2.2.2.2.2.2.1 hq
        refine a_tsIn (pc := 13) a 8 hq ⟨by decide, by decide⟩ dX6_kindFact_13 (by decide) (by decide) rfl (tgt := 98) (by decide) ?_
        clear hq
        refine a_aload_n (pc := 98) a 0 dX6_kindFact_98 rfl rfl ?_
        refine a_getR (pc := 99) a 1 1 rfl tb vc6 w2 w11 (by decide) (by decide) 14 (q := 14) rfl rfl dX6_kindFact_99 ?_
        refine a_getR (pc := 102) a 6 6 rfl w12 vc1 w14 w13 (by decide) (by decide) 10 (q := 24) rfl rfl dX6_kindFact_102 ?_
        refine a_iload_n (pc := 105) a 1 dX6_kindFact_105 rfl rfl ?_
        refine a_cvi (pc := 106) a (As := [vI p1]) (rest := []) w15 vc2 (fun sz => c_X2_countOfKind hinj hl0 w15 h sz) (cwV 1 hts (gl_V (GL_18 _ (by decide +kernel)) (GL_18 _ (by decide +kernel)) (GL_18 _ (by decide +kernel)) (GL_3 _ (by decide +kernel)) (GL_18 _ (by decide +kernel))) rfl rfl rfl (by decide +kernel) ⟨Nat.le_of_ble_eq_true rfl, Nat.le_of_ble_eq_true rfl⟩) rfl rfl (Nat.le_of_ble_eq_true rfl) ⟨Nat.le_of_ble_eq_true rfl, Nat.le_of_ble_eq_true rfl⟩ dX6_kindFact_106 ?_
        rintro x6 s9 ⟨hs9, h9⟩
        subst s9
        replace h := h9
        clear h9
        exact e_i (pc := 109) a hr dX6_kindFact_109 ⟨rfl, h⟩
      · replace h := h.2.2.2.2.2.2.2.2.2.2.1 hq
        refine a_tsIn (pc := 13) a 9 hq ⟨by decide, by decide⟩ dX6_kindFact_13 (by decide) (by decide) rfl (tgt := 110) (by decide) ?_
        clear hq
        refine a_aload_n (pc := 110) a 0 dX6_kindFact_110 rfl rfl ?_
        refine a_getR (pc := 111) a 1 1 rfl tb vc6 w2 w11 (by decide) (by decide) 14 (q := 14) rfl rfl dX6_kindFact_111 ?_
        refine a_getR (pc := 114) a 5 5 rfl w12 vc1 w14 w16 (by decide) (by decide) 3 (q := 17) rfl rfl dX6_kindFact_114 ?_
        refine a_getR (pc := 117) a 0 0 rfl w17 vc4 w19 w18 (by decide) (by decide) 1 (q := 18) rfl rfl dX6_kindFact_117 ?_
        refine a_iload_n (pc := 120) a 1 dX6_kindFact_120 rfl rfl ?_
        refine a_iald (pc := 121) a (tw hinj w20) (by decide) h.1 dX6_kindFact_121 ?_
        replace h := h.2
        exact e_i (pc := 122) a hr dX6_kindFact_122 ⟨rfl, h⟩
      · have hr := h.1
        replace h := h.2.2.2.2.2.2.2.2.2.2.2 hq
        refine a_tsOut (pc := 13) a hr dX6_kindFact_13 hq (tgt := 123) (by decide) ?_
        clear hq hr
        refine a_aload_n (pc := 123) a 0 dX6_kindFact_123 rfl rfl ?_
        refine a_getR (pc := 124) a 0 0 rfl tb vc6 w2 w1 (by decide) (by decide) 1 (q := 1) rfl rfl dX6_kindFact_124 ?_
        refine a_iload_n (pc := 127) a 1 dX6_kindFact_127 rfl rfl ?_
        refine a_iload_n (pc := 128) a 2 dX6_kindFact_128 rfl rfl ?_
        refine a_iconst (pc := 129) a dX6_kindFact_129 ?_
        refine a_isub (pc := 130) a dX6_kindFact_130 ?_
        refine a_cvi (pc := 131) a (As := [vI p1, vI (p2 - 3)]) (rest := []) w3 vc3 (fun sz => c_X3_limitAt hinj hl0 w3 h sz) (cwV 2 hts (gl_V (GL_19 _ (by decide +kernel)) (GL_19 _ (by decide +kernel)) (GL_19 _ (by decide +kernel)) (GL_1 _ (by decide +kernel)) (GL_19 _ (by decide +kernel))) rfl rfl rfl (by decide +kernel) ⟨Nat.le_of_ble_eq_true rfl, Nat.le_of_ble_eq_true rfl⟩) rfl rfl (Nat.le_of_ble_eq_true rfl) ⟨Nat.le_of_ble_eq_true rfl, Nat.le_of_ble_eq_true rfl⟩ dX6_kindFact_131 ?_
        rintro x7 s9 ⟨hs9, h9⟩
        subst s9
        replace h := h9
        clear h9
        exact e_i (pc := 134) a hr dX6_kindFact_134 ⟨rfl, h⟩
    · replace h := h.2.2 hq
      clear hq
      refine a_iconst (pc := 10) a dX6_kindFact_10 ?_
      exact e_i (pc := 11) a hr dX6_kindFact_11 ⟨rfl, h⟩

set_option maxRecDepth 100000 in
set_option maxHeartbeats 4000000 in
theorem c_X6_kind {l : Launch} {D : va_G} {X : XI} {ad : Nat → Nat} (hinj : adI ad) (hl0 : l.stackTraces = false) {p1 : Int} {p2 : Int}  {σ : St} {K : Int → St → Prop} {X2 : Nat → St → Prop} (h : f_X6_kind p1 p2 σ K X2) (sz : Nat) : vx_Met l yX6_kind (WW (.code yX6_kind cX6_kind 3 (some .int))) { frames := 7, cells := 2, slots := 12, locals := 147 } (va_Pc [Value.ref (ad 0), vI p1, vI p2] (WD D X ad σ sz)) (QI D X ad sz K) (XX D X ad sz X2) 2 12 (AA ad sz) := by
  refine ax_start (cc := cX6_kind) (maxL := 3) (ret := (some .int)) (own := RX6) [Value.ref (ad 0), vI p1, vI p2] (by decide) rfl rfl (Nat.le_of_ble_eq_true rfl) hinj hl0 ?_
  intro p e s m below meth c a hr hno hsz
  subst hsz
  have hts := a.1.2.2.2.2
  have tb : tyc 0 (10, 0) := ⟨by decide, rfl⟩
  have w1 := hts (Cond.fieldLink RX6 19 "SightLegend" "legend" "LSightLegend$Legend;") (List.mem_cons_of_mem _ (GL_1 _ (by decide +kernel)))
  have w2 : ∀ w ∈ u_ws RX6 TX6 8, w ∈ WW (.code yX6_kind cX6_kind 3 (some .int)) := fun w h => List.mem_cons_of_mem _ (inlX6 w h)
  have w3 : tyc 14 (5, 0) := ty_of (d := 14) (t1 := (5, 0)) (by decide +kernel) rfl tb
  have w4 := hts (Cond.fieldLink RX6 10 "SightLegend" "map" "LSightLegend$MapState;") (List.mem_cons_of_mem _ (GL_1 _ (by decide +kernel)))
  have w5 : tyc 1 (7, 0) := ty_of (d := 1) (t1 := (7, 0)) (by decide +kernel) rfl tb
  unfold f_X6_kind at h
  refine a_sub (ls1 := [(0, Value.ref (ad 0)), (1, vI p1), (2, vI p2)]) [0, 1, 2] rfl ?_
  refine a_iload_n (pc := 0) a 1 dX6_kind_0 rfl rfl ?_
  refine a_xsv (pc := 1) a (As := [vI p1]) (rest := []) (fun sz => c_X6_demandKind hinj hl0  h sz) (va_cwS 1 hts (gl_S (GL_18 _ (by decide +kernel)) (GL_18 _ (by decide +kernel)) (GL_1 _ (by decide +kernel)) (GL_18 _ (by decide +kernel))) rfl rfl rfl (by decide +kernel) ⟨Nat.le_of_ble_eq_true rfl, Nat.le_of_ble_eq_true rfl⟩) rfl rfl (Nat.le_of_ble_eq_true rfl) ⟨Nat.le_of_ble_eq_true rfl, Nat.le_of_ble_eq_true rfl⟩ dX6_kind_1 ?_ ?_
  · rintro E cx ce q9 s9 H1 locs1 la ⟨hs9, hk⟩ hE hP hS hl h1 h2 h3
    subst s9
    exact x_pass a hno (by decide) (by decide) hk hE hP hS h1 h2 h3
  rintro s9 ⟨hs9, h9⟩
  subst s9
  replace h := h9
  clear h9
  refine a_iload_n (pc := 4) a 2 dX6_kind_4 rfl rfl ?_
  refine a_bipush (pc := 5) a dX6_kind_5 (by decide) ?_
  refine a_xsv (pc := 7) a (As := [vI p2, vI 10]) (rest := []) (fun sz => c_X6_demandBelow hinj hl0  h sz) (va_cwS 2 hts (gl_S (GL_13 _ (by decide +kernel)) (GL_13 _ (by decide +kernel)) (GL_1 _ (by decide +kernel)) (GL_13 _ (by decide +kernel))) rfl rfl rfl (by decide +kernel) ⟨Nat.le_of_ble_eq_true rfl, Nat.le_of_ble_eq_true rfl⟩) rfl rfl (Nat.le_of_ble_eq_true rfl) ⟨Nat.le_of_ble_eq_true rfl, Nat.le_of_ble_eq_true rfl⟩ dX6_kind_7 ?_ ?_
  · rintro E cx ce q9 s9 H1 locs1 la ⟨hs9, hk⟩ hE hP hS hl h1 h2 h3
    subst s9
    exact x_pass a hno (by decide) (by decide) hk hE hP hS h1 h2 h3
  rintro s9 ⟨hs9, h9⟩
  subst s9
  replace h := h9
  clear h9
  refine a_aload_n (pc := 10) a 0 dX6_kind_10 rfl rfl ?_
  refine a_getR (pc := 11) a 1 1 rfl tb vc6 w2 w1 (by decide) (by decide) 14 (q := 14) rfl rfl dX6_kind_11 ?_
  refine a_aload_n (pc := 14) a 0 dX6_kind_14 rfl rfl ?_
  refine a_getR (pc := 15) a 0 0 rfl tb vc6 w2 w4 (by decide) (by decide) 1 (q := 1) rfl rfl dX6_kind_15 ?_
  refine a_cvv (pc := 18) a (As := [Value.ref (ad 1)]) (rest := []) w3 vc1 (fun sz => c_X1_make hinj hl0 w3 w5 h sz) (cwV 1 hts (gl_V (GL_7 _ (by decide +kernel)) (GL_7 _ (by decide +kernel)) (GL_7 _ (by decide +kernel)) (GL_1 _ (by decide +kernel)) (GL_7 _ (by decide +kernel))) rfl rfl rfl (by decide +kernel) ⟨Nat.le_of_ble_eq_true rfl, Nat.le_of_ble_eq_true rfl⟩) rfl rfl (Nat.le_of_ble_eq_true rfl) ⟨Nat.le_of_ble_eq_true rfl, Nat.le_of_ble_eq_true rfl⟩ dX6_kind_18 ?_
  clear h
  intro s1 h
  refine a_aload_n (pc := 21) a 0 dX6_kind_21 rfl rfl ?_
  refine a_iload_n (pc := 22) a 1 dX6_kind_22 rfl rfl ?_
  refine a_iload_n (pc := 23) a 2 dX6_kind_23 rfl rfl ?_
  refine a_cvi (pc := 24) a (As := [vI p1, vI p2]) (rest := []) tb vc6 (fun sz => c_X6_kindFact hinj hl0  h sz) (cwV 2 hts (gl_V (GL_18 _ (by decide +kernel)) (GL_18 _ (by decide +kernel)) (GL_18 _ (by decide +kernel)) (GL_1 _ (by decide +kernel)) (GL_18 _ (by decide +kernel))) rfl rfl rfl (by decide +kernel) ⟨Nat.le_of_ble_eq_true rfl, Nat.le_of_ble_eq_true rfl⟩) rfl rfl (Nat.le_of_ble_eq_true rfl) ⟨Nat.le_of_ble_eq_true rfl, Nat.le_of_ble_eq_true rfl⟩ dX6_kind_24 ?_
  rintro x2 s9 ⟨hs9, h9⟩
  subst s9
  replace h := h9
  clear h9
  exact ex_i (pc := 27) a hr dX6_kind_27 (by decide) (by decide) h

set_option maxRecDepth 100000 in
set_option maxHeartbeats 4000000 in
theorem c_X6_lines {l : Launch} {D : va_G} {X : XI} {ad : Nat → Nat} (hinj : adI ad) (hl0 : l.stackTraces = false)   {σ : St} {K : Int → St → Prop} (h : f_X6_lines σ K) (sz : Nat) : Met l yX6_lines (WW (.code yX6_lines cX6_lines 1 (some .int))) { frames := 6, cells := 0, slots := 0, locals := 147 } (va_Pc [Value.ref (ad 0)] (WD D X ad σ sz)) (QI D X ad sz K) 0 0 (AA ad sz) := by
  refine a_start (cc := cX6_lines) (maxL := 1) (ret := (some .int)) (own := RX6) [Value.ref (ad 0)] (by decide) rfl rfl (Nat.le_of_ble_eq_true rfl) hinj hl0 ?_
  intro p e s m below meth c a hr hsz
  subst hsz
  have hts := a.1.2.2.2.2
  have tb : tyc 0 (10, 0) := ⟨by decide, rfl⟩
  have w1 := hts (Cond.fieldLink RX6 19 "SightLegend" "legend" "LSightLegend$Legend;") (List.mem_cons_of_mem _ (GL_1 _ (by decide +kernel)))
  have w2 : ∀ w ∈ u_ws RX6 TX6 8, w ∈ WW (.code yX6_lines cX6_lines 1 (some .int)) := fun w h => List.mem_cons_of_mem _ (inlX6 w h)
  have w3 : tyc 14 (5, 0) := ty_of (d := 14) (t1 := (5, 0)) (by decide +kernel) rfl tb
  have w4 := hts (Cond.fieldLink RX6 10 "SightLegend" "map" "LSightLegend$MapState;") (List.mem_cons_of_mem _ (GL_1 _ (by decide +kernel)))
  have w5 : tyc 1 (7, 0) := ty_of (d := 1) (t1 := (7, 0)) (by decide +kernel) rfl tb
  have w6 := hts (Cond.fieldLink RX6 146 "SightLegend$Legend" "now" "LSightLegend$Lines;") (List.mem_cons_of_mem _ (GL_7 _ (by decide +kernel)))
  have w7 : ∀ w ∈ u_ws RX1 TX1 12, w ∈ WW (.code yX6_lines cX6_lines 1 (some .int)) := fun w h => List.mem_cons_of_mem _ (inlX1 w h)
  have w8 : tyc 24 (6, 0) := ty_of (d := 10) (t1 := (6, 0)) (by decide +kernel) rfl w3
  have w9 := hts (Cond.fieldLink RX6 150 "SightLegend$Lines" "size" "I") (List.mem_cons_of_mem _ (GL_7 _ (by decide +kernel)))
  have w10 : ∀ w ∈ u_ws RX2 TX2 14, w ∈ WW (.code yX6_lines cX6_lines 1 (some .int)) := fun w h => List.mem_cons_of_mem _ (inlX2 w h)
  unfold f_X6_lines at h
  refine a_sub (ls1 := [(0, Value.ref (ad 0))]) [0] rfl ?_
  refine a_aload_n (pc := 0) a 0 dX6_lines_0 rfl rfl ?_
  refine a_getR (pc := 1) a 1 1 rfl tb vc6 w2 w1 (by decide) (by decide) 14 (q := 14) rfl rfl dX6_lines_1 ?_
  refine a_aload_n (pc := 4) a 0 dX6_lines_4 rfl rfl ?_
  refine a_getR (pc := 5) a 0 0 rfl tb vc6 w2 w4 (by decide) (by decide) 1 (q := 1) rfl rfl dX6_lines_5 ?_
  refine a_cvv (pc := 8) a (As := [Value.ref (ad 1)]) (rest := []) w3 vc1 (fun sz => c_X1_make hinj hl0 w3 w5 h sz) (cwV 1 hts (gl_V (GL_7 _ (by decide +kernel)) (GL_7 _ (by decide +kernel)) (GL_7 _ (by decide +kernel)) (GL_1 _ (by decide +kernel)) (GL_7 _ (by decide +kernel))) rfl rfl rfl (by decide +kernel) ⟨Nat.le_of_ble_eq_true rfl, Nat.le_of_ble_eq_true rfl⟩) rfl rfl (Nat.le_of_ble_eq_true rfl) ⟨Nat.le_of_ble_eq_true rfl, Nat.le_of_ble_eq_true rfl⟩ dX6_lines_8 ?_
  clear h
  intro s1 h
  refine a_aload_n (pc := 11) a 0 dX6_lines_11 rfl rfl ?_
  refine a_getR (pc := 12) a 1 1 rfl tb vc6 w2 w1 (by decide) (by decide) 14 (q := 14) rfl rfl dX6_lines_12 ?_
  refine a_getR (pc := 15) a 6 6 rfl w3 vc1 w7 w6 (by decide) (by decide) 10 (q := 24) rfl rfl dX6_lines_15 ?_
  refine a_getI (pc := 18) a 0 0 rfl w8 vc2 w10 w9 (by decide) (by decide) rfl dX6_lines_18 ?_
  exact e_i (pc := 21) a hr dX6_lines_21 h

set_option maxRecDepth 100000 in
set_option maxHeartbeats 4000000 in
theorem c_X6_line {l : Launch} {D : va_G} {X : XI} {ad : Nat → Nat} (hinj : adI ad) (hl0 : l.stackTraces = false) {p1 : Int} {p2 : Int}  {σ : St} {K : Int → St → Prop} {X2 : Nat → St → Prop} (h : f_X6_line p1 p2 σ K X2) (sz : Nat) : vx_Met l yX6_line (WW (.code yX6_line cX6_line 3 (some .int))) { frames := 7, cells := 1, slots := 6, locals := 147 } (va_Pc [Value.ref (ad 0), vI p1, vI p2] (WD D X ad σ sz)) (QI D X ad sz K) (XX D X ad sz X2) 1 6 (AA ad sz) := by
  refine ax_start (cc := cX6_line) (maxL := 3) (ret := (some .int)) (own := RX6) [Value.ref (ad 0), vI p1, vI p2] (by decide) rfl rfl (Nat.le_of_ble_eq_true rfl) hinj hl0 ?_
  intro p e s m below meth c a hr hno hsz
  subst hsz
  have hts := a.1.2.2.2.2
  have tb : tyc 0 (10, 0) := ⟨by decide, rfl⟩
  have w1 := hts (Cond.fieldLink RX6 19 "SightLegend" "legend" "LSightLegend$Legend;") (List.mem_cons_of_mem _ (GL_1 _ (by decide +kernel)))
  have w2 : ∀ w ∈ u_ws RX6 TX6 8, w ∈ WW (.code yX6_line cX6_line 3 (some .int)) := fun w h => List.mem_cons_of_mem _ (inlX6 w h)
  have w3 : tyc 14 (5, 0) := ty_of (d := 14) (t1 := (5, 0)) (by decide +kernel) rfl tb
  have w4 := hts (Cond.fieldLink RX6 10 "SightLegend" "map" "LSightLegend$MapState;") (List.mem_cons_of_mem _ (GL_1 _ (by decide +kernel)))
  have w5 : tyc 1 (7, 0) := ty_of (d := 1) (t1 := (7, 0)) (by decide +kernel) rfl tb
  have w6 := hts (Cond.classLink RX6 106 "java/lang/IndexOutOfBoundsException") (List.mem_cons_of_mem _ (GL_16 _ (by decide +kernel)))
  have w7 := hts (Cond.initialized "java/lang/IndexOutOfBoundsException") (List.mem_cons_of_mem _ (GL_16 _ (by decide +kernel)))
  have w8 : ∀ w ∈ (vx_atS RX6 110 "java/lang/IndexOutOfBoundsException" ["java/lang/RuntimeException", "java/lang/Exception"]), w.before _ s = true := vx_hat (L := (vx_atS RX6 110 "java/lang/IndexOutOfBoundsException" ["java/lang/RuntimeException", "java/lang/Exception"])) (B := Cond.castable "java/lang/IndexOutOfBoundsException" "java/lang/IndexOutOfBoundsException" :: sups.map (fun x => Cond.declares (Bundle.initS x))) (fun w h => hts w (List.mem_cons_of_mem _ (GT_110 w h))) (by decide +kernel) (fun w h => ex_B (va_Nw.use rfl (a.2.2.2.1.2.2.2.2.1 _ (by decide))) (fun E hE => va_Nw.use rfl (a.2.2.2.1.2.2.2.2.2.1 E hE)) w h)
  have w9 := hts (Cond.fieldLink RX6 146 "SightLegend$Legend" "now" "LSightLegend$Lines;") (List.mem_cons_of_mem _ (GL_7 _ (by decide +kernel)))
  have w10 : ∀ w ∈ u_ws RX1 TX1 12, w ∈ WW (.code yX6_line cX6_line 3 (some .int)) := fun w h => List.mem_cons_of_mem _ (inlX1 w h)
  have w11 : tyc 24 (6, 0) := ty_of (d := 10) (t1 := (6, 0)) (by decide +kernel) rfl w3
  have w12 := hts (Cond.fieldLink RX6 150 "SightLegend$Lines" "size" "I") (List.mem_cons_of_mem _ (GL_7 _ (by decide +kernel)))
  have w13 : ∀ w ∈ u_ws RX2 TX2 14, w ∈ WW (.code yX6_line cX6_line 3 (some .int)) := fun w h => List.mem_cons_of_mem _ (inlX2 w h)
  unfold f_X6_line at h
  refine a_sub (ls1 := [(0, Value.ref (ad 0)), (1, vI p1), (2, vI p2)]) [0, 1, 2] rfl ?_
  refine a_aload_n (pc := 0) a 0 dX6_line_0 rfl rfl ?_
  refine a_getR (pc := 1) a 1 1 rfl tb vc6 w2 w1 (by decide) (by decide) 14 (q := 14) rfl rfl dX6_line_1 ?_
  refine a_aload_n (pc := 4) a 0 dX6_line_4 rfl rfl ?_
  refine a_getR (pc := 5) a 0 0 rfl tb vc6 w2 w4 (by decide) (by decide) 1 (q := 1) rfl rfl dX6_line_5 ?_
  refine a_cvv (pc := 8) a (As := [Value.ref (ad 1)]) (rest := []) w3 vc1 (fun sz => c_X1_make hinj hl0 w3 w5 h sz) (cwV 1 hts (gl_V (GL_7 _ (by decide +kernel)) (GL_7 _ (by decide +kernel)) (GL_7 _ (by decide +kernel)) (GL_1 _ (by decide +kernel)) (GL_7 _ (by decide +kernel))) rfl rfl rfl (by decide +kernel) ⟨Nat.le_of_ble_eq_true rfl, Nat.le_of_ble_eq_true rfl⟩) rfl rfl (Nat.le_of_ble_eq_true rfl) ⟨Nat.le_of_ble_eq_true rfl, Nat.le_of_ble_eq_true rfl⟩ dX6_line_8 ?_
  clear h
  intro s1 h
  refine a_iload_n (pc := 11) a 1 dX6_line_11 rfl rfl ?_
  refine a_if_lt (pc := 12) a h.1 dX6_line_12 (tgt := 29) (by decide) (fun hq => ?_) (fun hq => ?_)
  · replace h := h.2.1 hq
    clear hq
    exact x_throw (pc := 29) a hno (text := "there is no such line") (by decide) rfl (cx := 1) rfl (names := ["java/lang/RuntimeException", "java/lang/Exception"]) (by decide +kernel) (by decide +kernel) w6 w7 w8 (by decide +kernel) dX6_line_29 dX6_line_32 dX6_line_33 dX6_line_35 dX6_line_38 (Nat.le_of_ble_eq_true rfl) (Nat.le_of_ble_eq_true rfl) (Nat.le_of_ble_eq_true rfl) (Nat.le_of_ble_eq_true rfl) (Nat.le_of_ble_eq_true rfl) (Nat.le_of_ble_eq_true rfl) h
  · replace h := h.2.2 hq
    clear hq
    refine a_iload_n (pc := 15) a 1 dX6_line_15 rfl rfl ?_
    refine a_aload_n (pc := 16) a 0 dX6_line_16 rfl rfl ?_
    refine a_getR (pc := 17) a 1 1 rfl tb vc6 w2 w1 (by decide) (by decide) 14 (q := 14) rfl rfl dX6_line_17 ?_
    refine a_getR (pc := 20) a 6 6 rfl w3 vc1 w10 w9 (by decide) (by decide) 10 (q := 24) rfl rfl dX6_line_20 ?_
    refine a_getI (pc := 23) a 0 0 rfl w11 vc2 w13 w12 (by decide) (by decide) rfl dX6_line_23 ?_
    refine a_icmp_lt (pc := 26) a h.1 h.2.1 dX6_line_26 (tgt := 39) (by decide) (fun hq => ?_) (fun hq => ?_)
    · replace h := h.2.2.1 hq
      clear hq
      refine a_iload_n (pc := 39) a 2 dX6_line_39 rfl rfl ?_
      refine a_bipush (pc := 40) a dX6_line_40 (by decide) ?_
      refine a_xsv (pc := 42) a (As := [vI p2, vI 8]) (rest := []) (fun sz => c_X6_demandBelow hinj hl0  h sz) (va_cwS 2 hts (gl_S (GL_13 _ (by decide +kernel)) (GL_13 _ (by decide +kernel)) (GL_1 _ (by decide +kernel)) (GL_13 _ (by decide +kernel))) rfl rfl rfl (by decide +kernel) ⟨Nat.le_of_ble_eq_true rfl, Nat.le_of_ble_eq_true rfl⟩) rfl rfl (Nat.le_of_ble_eq_true rfl) ⟨Nat.le_of_ble_eq_true rfl, Nat.le_of_ble_eq_true rfl⟩ dX6_line_42 ?_ ?_
      · rintro E cx ce q9 s9 H1 locs1 la ⟨hs9, hk⟩ hE hP hS hl h1 h2 h3
        subst s9
        exact x_pass a hno (by decide) (by decide) hk hE hP hS h1 h2 h3
      rintro s9 ⟨hs9, h9⟩
      subst s9
      replace h := h9
      clear h9
      refine a_aload_n (pc := 45) a 0 dX6_line_45 rfl rfl ?_
      refine a_getR (pc := 46) a 1 1 rfl tb vc6 w2 w1 (by decide) (by decide) 14 (q := 14) rfl rfl dX6_line_46 ?_
      refine a_getR (pc := 49) a 6 6 rfl w3 vc1 w10 w9 (by decide) (by decide) 10 (q := 24) rfl rfl dX6_line_49 ?_
      refine a_iload_n (pc := 52) a 1 dX6_line_52 rfl rfl ?_
      refine a_iload_n (pc := 53) a 2 dX6_line_53 rfl rfl ?_
      refine a_cvi (pc := 54) a (As := [vI p1, vI p2]) (rest := []) w11 vc2 (fun sz => c_X2_fact hinj hl0 w11 h sz) (cwV 2 hts (gl_V (GL_16 _ (by decide +kernel)) (GL_16 _ (by decide +kernel)) (GL_16 _ (by decide +kernel)) (GL_3 _ (by decide +kernel)) (GL_16 _ (by decide +kernel))) rfl rfl rfl (by decide +kernel) ⟨Nat.le_of_ble_eq_true rfl, Nat.le_of_ble_eq_true rfl⟩) rfl rfl (Nat.le_of_ble_eq_true rfl) ⟨Nat.le_of_ble_eq_true rfl, Nat.le_of_ble_eq_true rfl⟩ dX6_line_54 ?_
      rintro x2 s9 ⟨hs9, h9⟩
      subst s9
      replace h := h9
      clear h9
      exact ex_i (pc := 57) a hr dX6_line_57 (by decide) (by decide) h
    · replace h := h.2.2.2 hq
      clear hq
      exact x_throw (pc := 29) a hno (text := "there is no such line") (by decide) rfl (cx := 1) rfl (names := ["java/lang/RuntimeException", "java/lang/Exception"]) (by decide +kernel) (by decide +kernel) w6 w7 w8 (by decide +kernel) dX6_line_29 dX6_line_32 dX6_line_33 dX6_line_35 dX6_line_38 (Nat.le_of_ble_eq_true rfl) (Nat.le_of_ble_eq_true rfl) (Nat.le_of_ble_eq_true rfl) (Nat.le_of_ble_eq_true rfl) (Nat.le_of_ble_eq_true rfl) (Nat.le_of_ble_eq_true rfl) h

set_option maxRecDepth 100000 in
set_option maxHeartbeats 4000000 in
theorem c_X6_box {l : Launch} {D : va_G} {X : XI} {ad : Nat → Nat} (hinj : adI ad) (hl0 : l.stackTraces = false) {p1 : Int}  {σ : St} {K : Int → St → Prop} {X2 : Nat → St → Prop} (h : f_X6_box p1 σ K X2) (sz : Nat) : vx_Met l yX6_box (WW (.code yX6_box cX6_box 2 (some .int))) { frames := 7, cells := 1, slots := 6, locals := 147 } (va_Pc [Value.ref (ad 0), vI p1] (WD D X ad σ sz)) (QI D X ad sz K) (XX D X ad sz X2) 1 6 (AA ad sz) := by
  refine ax_start (cc := cX6_box) (maxL := 2) (ret := (some .int)) (own := RX6) [Value.ref (ad 0), vI p1] (by decide) rfl rfl (Nat.le_of_ble_eq_true rfl) hinj hl0 ?_
  intro p e s m below meth c a hr hno hsz
  subst hsz
  have hts := a.1.2.2.2.2
  have tb : tyc 0 (10, 0) := ⟨by decide, rfl⟩
  have w1 := hts (Cond.fieldLink RX6 19 "SightLegend" "legend" "LSightLegend$Legend;") (List.mem_cons_of_mem _ (GL_1 _ (by decide +kernel)))
  have w2 : ∀ w ∈ u_ws RX6 TX6 8, w ∈ WW (.code yX6_box cX6_box 2 (some .int)) := fun w h => List.mem_cons_of_mem _ (inlX6 w h)
  have w3 : tyc 14 (5, 0) := ty_of (d := 14) (t1 := (5, 0)) (by decide +kernel) rfl tb
  have w4 := hts (Cond.fieldLink RX6 10 "SightLegend" "map" "LSightLegend$MapState;") (List.mem_cons_of_mem _ (GL_1 _ (by decide +kernel)))
  have w5 : tyc 1 (7, 0) := ty_of (d := 1) (t1 := (7, 0)) (by decide +kernel) rfl tb
  have w6 := hts (Cond.fieldLink RX6 160 "SightLegend$Legend" "box" "LSightLegend$Box;") (List.mem_cons_of_mem _ (GL_15 _ (by decide +kernel)))
  have w7 : ∀ w ∈ u_ws RX1 TX1 12, w ∈ WW (.code yX6_box cX6_box 2 (some .int)) := fun w h => List.mem_cons_of_mem _ (inlX1 w h)
  have w8 : tyc 46 (4, 0) := ty_of (d := 32) (t1 := (4, 0)) (by decide +kernel) rfl w3
  unfold f_X6_box at h
  refine a_sub (ls1 := [(0, Value.ref (ad 0)), (1, vI p1)]) [0, 1] rfl ?_
  refine a_iload_n (pc := 0) a 1 dX6_box_0 rfl rfl ?_
  refine a_bipush (pc := 1) a dX6_box_1 (by decide) ?_
  refine a_xsv (pc := 3) a (As := [vI p1, vI 6]) (rest := []) (fun sz => c_X6_demandBelow hinj hl0  h sz) (va_cwS 2 hts (gl_S (GL_13 _ (by decide +kernel)) (GL_13 _ (by decide +kernel)) (GL_1 _ (by decide +kernel)) (GL_13 _ (by decide +kernel))) rfl rfl rfl (by decide +kernel) ⟨Nat.le_of_ble_eq_true rfl, Nat.le_of_ble_eq_true rfl⟩) rfl rfl (Nat.le_of_ble_eq_true rfl) ⟨Nat.le_of_ble_eq_true rfl, Nat.le_of_ble_eq_true rfl⟩ dX6_box_3 ?_ ?_
  · rintro E cx ce q9 s9 H1 locs1 la ⟨hs9, hk⟩ hE hP hS hl h1 h2 h3
    subst s9
    exact x_pass a hno (by decide) (by decide) hk hE hP hS h1 h2 h3
  rintro s9 ⟨hs9, h9⟩
  subst s9
  replace h := h9
  clear h9
  refine a_aload_n (pc := 6) a 0 dX6_box_6 rfl rfl ?_
  refine a_getR (pc := 7) a 1 1 rfl tb vc6 w2 w1 (by decide) (by decide) 14 (q := 14) rfl rfl dX6_box_7 ?_
  refine a_aload_n (pc := 10) a 0 dX6_box_10 rfl rfl ?_
  refine a_getR (pc := 11) a 0 0 rfl tb vc6 w2 w4 (by decide) (by decide) 1 (q := 1) rfl rfl dX6_box_11 ?_
  refine a_cvv (pc := 14) a (As := [Value.ref (ad 1)]) (rest := []) w3 vc1 (fun sz => c_X1_make hinj hl0 w3 w5 h sz) (cwV 1 hts (gl_V (GL_7 _ (by decide +kernel)) (GL_7 _ (by decide +kernel)) (GL_7 _ (by decide +kernel)) (GL_1 _ (by decide +kernel)) (GL_7 _ (by decide +kernel))) rfl rfl rfl (by decide +kernel) ⟨Nat.le_of_ble_eq_true rfl, Nat.le_of_ble_eq_true rfl⟩) rfl rfl (Nat.le_of_ble_eq_true rfl) ⟨Nat.le_of_ble_eq_true rfl, Nat.le_of_ble_eq_true rfl⟩ dX6_box_14 ?_
  clear h
  intro s1 h
  refine a_aload_n (pc := 17) a 0 dX6_box_17 rfl rfl ?_
  refine a_getR (pc := 18) a 1 1 rfl tb vc6 w2 w1 (by decide) (by decide) 14 (q := 14) rfl rfl dX6_box_18 ?_
  refine a_getR (pc := 21) a 8 8 rfl w3 vc1 w7 w6 (by decide) (by decide) 32 (q := 46) rfl rfl dX6_box_21 ?_
  refine a_iload_n (pc := 24) a 1 dX6_box_24 rfl rfl ?_
  refine a_cvi (pc := 25) a (As := [vI p1]) (rest := []) w8 vc0 (fun sz => c_X0_fact hinj hl0 w8 h sz) (cwV 1 hts (gl_V (GL_15 _ (by decide +kernel)) (GL_15 _ (by decide +kernel)) (GL_15 _ (by decide +kernel)) (GL_3 _ (by decide +kernel)) (GL_15 _ (by decide +kernel))) rfl rfl rfl (by decide +kernel) ⟨Nat.le_of_ble_eq_true rfl, Nat.le_of_ble_eq_true rfl⟩) rfl rfl (Nat.le_of_ble_eq_true rfl) ⟨Nat.le_of_ble_eq_true rfl, Nat.le_of_ble_eq_true rfl⟩ dX6_box_25 ?_
  rintro x2 s9 ⟨hs9, h9⟩
  subst s9
  replace h := h9
  clear h9
  exact ex_i (pc := 28) a hr dX6_box_28 (by decide) (by decide) h

set_option maxRecDepth 100000 in
set_option maxHeartbeats 4000000 in
theorem c_X6_roundFact {l : Launch} {D : va_G} {X : XI} {ad : Nat → Nat} (hinj : adI ad) (hl0 : l.stackTraces = false) {p1 : Int}  {σ : St} {K : Int → Prop} (h : f_X6_roundFact p1 σ K) (sz : Nat) : Met l yX6_roundFact (WW (.code yX6_roundFact cX6_roundFact 2 (some .int))) { frames := 3, cells := 0, slots := 0, locals := 69 } (va_Pc [Value.ref (ad 0), vI p1] (WD D X ad σ sz)) (QI D X ad sz (fun r τ => τ = σ ∧ K r)) 0 0 (AA ad sz) := by
  refine a_start (cc := cX6_roundFact) (maxL := 2) (ret := (some .int)) (own := RX6) [Value.ref (ad 0), vI p1] (by decide) rfl rfl (Nat.le_of_ble_eq_true rfl) hinj hl0 ?_
  intro p e s m below meth c a hr hsz
  subst hsz
  have hts := a.1.2.2.2.2
  have tb : tyc 0 (10, 0) := ⟨by decide, rfl⟩
  have w1 := hts (Cond.fieldLink RX6 19 "SightLegend" "legend" "LSightLegend$Legend;") (List.mem_cons_of_mem _ (GL_1 _ (by decide +kernel)))
  have w2 : ∀ w ∈ u_ws RX6 TX6 8, w ∈ WW (.code yX6_roundFact cX6_roundFact 2 (some .int)) := fun w h => List.mem_cons_of_mem _ (inlX6 w h)
  have w3 : tyc 14 (5, 0) := ty_of (d := 14) (t1 := (5, 0)) (by decide +kernel) rfl tb
  have w4 := hts (Cond.fieldLink RX6 276 "SightLegend$Legend" "roundCount" "I") (List.mem_cons_of_mem _ (GL_14 _ (by decide +kernel)))
  have w5 : ∀ w ∈ u_ws RX1 TX1 12, w ∈ WW (.code yX6_roundFact cX6_roundFact 2 (some .int)) := fun w h => List.mem_cons_of_mem _ (inlX1 w h)
  have w6 := hts (Cond.fieldLink RX6 279 "SightLegend$Legend" "stays" "Z") (List.mem_cons_of_mem _ (GL_14 _ (by decide +kernel)))
  have w7 := hts (Cond.fieldLink RX6 10 "SightLegend" "map" "LSightLegend$MapState;") (List.mem_cons_of_mem _ (GL_1 _ (by decide +kernel)))
  have w8 : tyc 1 (7, 0) := ty_of (d := 1) (t1 := (7, 0)) (by decide +kernel) rfl tb
  unfold f_X6_roundFact at h
  refine a_sub (ls1 := [(0, Value.ref (ad 0)), (1, vI p1)]) [0, 1] rfl ?_
  refine a_iload_n (pc := 0) a 1 dX6_roundFact_0 rfl rfl ?_
  have hsw : p1 = 0 ∨ p1 = 1 ∨ (p1 ≠ 0 ∧ p1 ≠ 1) := by omega
  rcases hsw with hq | hq | hq
  · have hr := h.1
    replace h := h.2.1 hq
    refine a_lsw (pc := 1) a hr dX6_roundFact_1 rfl (off := 27) (by rw [hq]; rfl) (tgt := 28) (by decide) ?_
    clear hq hr
    refine a_aload_n (pc := 28) a 0 dX6_roundFact_28 rfl rfl ?_
    refine a_getR (pc := 29) a 1 1 rfl tb vc6 w2 w1 (by decide) (by decide) 14 (q := 14) rfl rfl dX6_roundFact_29 ?_
    refine a_getI (pc := 32) a 9 9 rfl w3 vc1 w5 w4 (by decide) (by decide) rfl dX6_roundFact_32 ?_
    exact e_i (pc := 35) a hr dX6_roundFact_35 ⟨rfl, h⟩
  · have hr := h.1
    replace h := h.2.2.1 hq
    refine a_lsw (pc := 1) a hr dX6_roundFact_1 rfl (off := 35) (by rw [hq]; rfl) (tgt := 36) (by decide) ?_
    clear hq hr
    refine a_aload_n (pc := 36) a 0 dX6_roundFact_36 rfl rfl ?_
    refine a_getR (pc := 37) a 1 1 rfl tb vc6 w2 w1 (by decide) (by decide) 14 (q := 14) rfl rfl dX6_roundFact_37 ?_
    refine a_getI (pc := 40) a 10 10 rfl w3 vc1 w5 w6 (by decide) (by decide) rfl dX6_roundFact_40 ?_
    refine a_if_eq (pc := 43) a h.1 dX6_roundFact_43 (tgt := 50) (by decide) (fun hq => ?_) (fun hq => ?_)
    · replace h := h.2.1 hq
      clear hq
      refine a_iconst (pc := 50) a dX6_roundFact_50 ?_
      exact e_i (pc := 51) a hr dX6_roundFact_51 ⟨rfl, h⟩
    · replace h := h.2.2 hq
      clear hq
      refine a_iconst (pc := 46) a dX6_roundFact_46 ?_
      refine a_goto (pc := 47) a dX6_roundFact_47 (tgt := 51) (by decide) ?_
      exact e_i (pc := 51) a hr dX6_roundFact_51 ⟨rfl, h⟩
  · have hr := h.1
    replace h := h.2.2.2 hq
    refine a_lsw (pc := 1) a hr dX6_roundFact_1 rfl (off := 51) (by first | (simp [Op.lookupswitch.offset, hq]; done) | (simp [Op.lookupswitch.offset]; omega)) (tgt := 52) (by decide) ?_
    clear hq hr
    refine a_aload_n (pc := 52) a 0 dX6_roundFact_52 rfl rfl ?_
    refine a_getR (pc := 53) a 1 1 rfl tb vc6 w2 w1 (by decide) (by decide) 14 (q := 14) rfl rfl dX6_roundFact_53 ?_
    refine a_aload_n (pc := 56) a 0 dX6_roundFact_56 rfl rfl ?_
    refine a_getR (pc := 57) a 0 0 rfl tb vc6 w2 w7 (by decide) (by decide) 1 (q := 1) rfl rfl dX6_roundFact_57 ?_
    refine a_cvi (pc := 60) a (As := [Value.ref (ad 1)]) (rest := []) w3 vc1 (fun sz => c_X1_countCoveredInSight hinj hl0 w3 w8 h sz) (cwV 1 hts (gl_V (GL_14 _ (by decide +kernel)) (GL_14 _ (by decide +kernel)) (GL_14 _ (by decide +kernel)) (GL_1 _ (by decide +kernel)) (GL_14 _ (by decide +kernel))) rfl rfl rfl (by decide +kernel) ⟨Nat.le_of_ble_eq_true rfl, Nat.le_of_ble_eq_true rfl⟩) rfl rfl (Nat.le_of_ble_eq_true rfl) ⟨Nat.le_of_ble_eq_true rfl, Nat.le_of_ble_eq_true rfl⟩ dX6_roundFact_60 ?_
    rintro x1 s9 ⟨hs9, h9⟩
    subst s9
    replace h := h9
    clear h9
    exact e_i (pc := 63) a hr dX6_roundFact_63 ⟨rfl, h⟩

set_option maxRecDepth 100000 in
set_option maxHeartbeats 4000000 in
theorem c_X6_rounds {l : Launch} {D : va_G} {X : XI} {ad : Nat → Nat} (hinj : adI ad) (hl0 : l.stackTraces = false) {p1 : Int}  {σ : St} {K : Int → St → Prop} {X2 : Nat → St → Prop} (h : f_X6_rounds p1 σ K X2) (sz : Nat) : vx_Met l yX6_rounds (WW (.code yX6_rounds cX6_rounds 2 (some .int))) { frames := 7, cells := 1, slots := 6, locals := 147 } (va_Pc [Value.ref (ad 0), vI p1] (WD D X ad σ sz)) (QI D X ad sz K) (XX D X ad sz X2) 1 6 (AA ad sz) := by
  refine ax_start (cc := cX6_rounds) (maxL := 2) (ret := (some .int)) (own := RX6) [Value.ref (ad 0), vI p1] (by decide) rfl rfl (Nat.le_of_ble_eq_true rfl) hinj hl0 ?_
  intro p e s m below meth c a hr hno hsz
  subst hsz
  have hts := a.1.2.2.2.2
  have tb : tyc 0 (10, 0) := ⟨by decide, rfl⟩
  have w1 := hts (Cond.fieldLink RX6 19 "SightLegend" "legend" "LSightLegend$Legend;") (List.mem_cons_of_mem _ (GL_1 _ (by decide +kernel)))
  have w2 : ∀ w ∈ u_ws RX6 TX6 8, w ∈ WW (.code yX6_rounds cX6_rounds 2 (some .int)) := fun w h => List.mem_cons_of_mem _ (inlX6 w h)
  have w3 : tyc 14 (5, 0) := ty_of (d := 14) (t1 := (5, 0)) (by decide +kernel) rfl tb
  have w4 := hts (Cond.fieldLink RX6 10 "SightLegend" "map" "LSightLegend$MapState;") (List.mem_cons_of_mem _ (GL_1 _ (by decide +kernel)))
  have w5 : tyc 1 (7, 0) := ty_of (d := 1) (t1 := (7, 0)) (by decide +kernel) rfl tb
  unfold f_X6_rounds at h
  refine a_sub (ls1 := [(0, Value.ref (ad 0)), (1, vI p1)]) [0, 1] rfl ?_
  refine a_iload_n (pc := 0) a 1 dX6_rounds_0 rfl rfl ?_
  refine a_iconst (pc := 1) a dX6_rounds_1 ?_
  refine a_xsv (pc := 2) a (As := [vI p1, vI 3]) (rest := []) (fun sz => c_X6_demandBelow hinj hl0  h sz) (va_cwS 2 hts (gl_S (GL_13 _ (by decide +kernel)) (GL_13 _ (by decide +kernel)) (GL_1 _ (by decide +kernel)) (GL_13 _ (by decide +kernel))) rfl rfl rfl (by decide +kernel) ⟨Nat.le_of_ble_eq_true rfl, Nat.le_of_ble_eq_true rfl⟩) rfl rfl (Nat.le_of_ble_eq_true rfl) ⟨Nat.le_of_ble_eq_true rfl, Nat.le_of_ble_eq_true rfl⟩ dX6_rounds_2 ?_ ?_
  · rintro E cx ce q9 s9 H1 locs1 la ⟨hs9, hk⟩ hE hP hS hl h1 h2 h3
    subst s9
    exact x_pass a hno (by decide) (by decide) hk hE hP hS h1 h2 h3
  rintro s9 ⟨hs9, h9⟩
  subst s9
  replace h := h9
  clear h9
  refine a_aload_n (pc := 5) a 0 dX6_rounds_5 rfl rfl ?_
  refine a_getR (pc := 6) a 1 1 rfl tb vc6 w2 w1 (by decide) (by decide) 14 (q := 14) rfl rfl dX6_rounds_6 ?_
  refine a_aload_n (pc := 9) a 0 dX6_rounds_9 rfl rfl ?_
  refine a_getR (pc := 10) a 0 0 rfl tb vc6 w2 w4 (by decide) (by decide) 1 (q := 1) rfl rfl dX6_rounds_10 ?_
  refine a_cvv (pc := 13) a (As := [Value.ref (ad 1)]) (rest := []) w3 vc1 (fun sz => c_X1_make hinj hl0 w3 w5 h sz) (cwV 1 hts (gl_V (GL_7 _ (by decide +kernel)) (GL_7 _ (by decide +kernel)) (GL_7 _ (by decide +kernel)) (GL_1 _ (by decide +kernel)) (GL_7 _ (by decide +kernel))) rfl rfl rfl (by decide +kernel) ⟨Nat.le_of_ble_eq_true rfl, Nat.le_of_ble_eq_true rfl⟩) rfl rfl (Nat.le_of_ble_eq_true rfl) ⟨Nat.le_of_ble_eq_true rfl, Nat.le_of_ble_eq_true rfl⟩ dX6_rounds_13 ?_
  clear h
  intro s1 h
  refine a_aload_n (pc := 16) a 0 dX6_rounds_16 rfl rfl ?_
  refine a_iload_n (pc := 17) a 1 dX6_rounds_17 rfl rfl ?_
  refine a_cvi (pc := 18) a (As := [vI p1]) (rest := []) tb vc6 (fun sz => c_X6_roundFact hinj hl0  h sz) (cwV 1 hts (gl_V (GL_14 _ (by decide +kernel)) (GL_14 _ (by decide +kernel)) (GL_14 _ (by decide +kernel)) (GL_1 _ (by decide +kernel)) (GL_14 _ (by decide +kernel))) rfl rfl rfl (by decide +kernel) ⟨Nat.le_of_ble_eq_true rfl, Nat.le_of_ble_eq_true rfl⟩) rfl rfl (Nat.le_of_ble_eq_true rfl) ⟨Nat.le_of_ble_eq_true rfl, Nat.le_of_ble_eq_true rfl⟩ dX6_rounds_18 ?_
  rintro x2 s9 ⟨hs9, h9⟩
  subst s9
  replace h := h9
  clear h9
  exact ex_i (pc := 21) a hr dX6_rounds_21 (by decide) (by decide) h

set_option maxRecDepth 100000 in
set_option maxHeartbeats 4000000 in
theorem c_X6_firstLines {l : Launch} {D : va_G} {X : XI} {ad : Nat → Nat} (hinj : adI ad) (hl0 : l.stackTraces = false)   {σ : St} {K : Int → St → Prop} (h : f_X6_firstLines σ K) (sz : Nat) : Met l yX6_firstLines (WW (.code yX6_firstLines cX6_firstLines 1 (some .int))) { frames := 6, cells := 0, slots := 0, locals := 147 } (va_Pc [Value.ref (ad 0)] (WD D X ad σ sz)) (QI D X ad sz K) 0 0 (AA ad sz) := by
  refine a_start (cc := cX6_firstLines) (maxL := 1) (ret := (some .int)) (own := RX6) [Value.ref (ad 0)] (by decide) rfl rfl (Nat.le_of_ble_eq_true rfl) hinj hl0 ?_
  intro p e s m below meth c a hr hsz
  subst hsz
  have hts := a.1.2.2.2.2
  have tb : tyc 0 (10, 0) := ⟨by decide, rfl⟩
  have w1 := hts (Cond.fieldLink RX6 19 "SightLegend" "legend" "LSightLegend$Legend;") (List.mem_cons_of_mem _ (GL_1 _ (by decide +kernel)))
  have w2 : ∀ w ∈ u_ws RX6 TX6 8, w ∈ WW (.code yX6_firstLines cX6_firstLines 1 (some .int)) := fun w h => List.mem_cons_of_mem _ (inlX6 w h)
  have w3 : tyc 14 (5, 0) := ty_of (d := 14) (t1 := (5, 0)) (by decide +kernel) rfl tb
  have w4 := hts (Cond.fieldLink RX6 10 "SightLegend" "map" "LSightLegend$MapState;") (List.mem_cons_of_mem _ (GL_1 _ (by decide +kernel)))
  have w5 : tyc 1 (7, 0) := ty_of (d := 1) (t1 := (7, 0)) (by decide +kernel) rfl tb
  have w6 := hts (Cond.fieldLink RX6 171 "SightLegend$Legend" "firstLineCount" "I") (List.mem_cons_of_mem _ (GL_13 _ (by decide +kernel)))
  have w7 : ∀ w ∈ u_ws RX1 TX1 12, w ∈ WW (.code yX6_firstLines cX6_firstLines 1 (some .int)) := fun w h => List.mem_cons_of_mem _ (inlX1 w h)
  unfold f_X6_firstLines at h
  refine a_sub (ls1 := [(0, Value.ref (ad 0))]) [0] rfl ?_
  refine a_aload_n (pc := 0) a 0 dX6_firstLines_0 rfl rfl ?_
  refine a_getR (pc := 1) a 1 1 rfl tb vc6 w2 w1 (by decide) (by decide) 14 (q := 14) rfl rfl dX6_firstLines_1 ?_
  refine a_aload_n (pc := 4) a 0 dX6_firstLines_4 rfl rfl ?_
  refine a_getR (pc := 5) a 0 0 rfl tb vc6 w2 w4 (by decide) (by decide) 1 (q := 1) rfl rfl dX6_firstLines_5 ?_
  refine a_cvv (pc := 8) a (As := [Value.ref (ad 1)]) (rest := []) w3 vc1 (fun sz => c_X1_make hinj hl0 w3 w5 h sz) (cwV 1 hts (gl_V (GL_7 _ (by decide +kernel)) (GL_7 _ (by decide +kernel)) (GL_7 _ (by decide +kernel)) (GL_1 _ (by decide +kernel)) (GL_7 _ (by decide +kernel))) rfl rfl rfl (by decide +kernel) ⟨Nat.le_of_ble_eq_true rfl, Nat.le_of_ble_eq_true rfl⟩) rfl rfl (Nat.le_of_ble_eq_true rfl) ⟨Nat.le_of_ble_eq_true rfl, Nat.le_of_ble_eq_true rfl⟩ dX6_firstLines_8 ?_
  clear h
  intro s1 h
  refine a_aload_n (pc := 11) a 0 dX6_firstLines_11 rfl rfl ?_
  refine a_getR (pc := 12) a 1 1 rfl tb vc6 w2 w1 (by decide) (by decide) 14 (q := 14) rfl rfl dX6_firstLines_12 ?_
  refine a_getI (pc := 15) a 11 11 rfl w3 vc1 w7 w6 (by decide) (by decide) rfl dX6_firstLines_15 ?_
  exact e_i (pc := 18) a hr dX6_firstLines_18 h

set_option maxRecDepth 100000 in
set_option maxHeartbeats 4000000 in
theorem c_X6_explained {l : Launch} {D : va_G} {X : XI} {ad : Nat → Nat} (hinj : adI ad) (hl0 : l.stackTraces = false)   {σ : St} {K : UInt64 → St → Prop} (h : f_X6_explained σ K) (sz : Nat) : Met l yX6_explained (WW (.code yX6_explained cX6_explained 2 (some .double))) { frames := 6, cells := 0, slots := 0, locals := 147 } (va_Pc [Value.ref (ad 0)] (WD D X ad σ sz)) (QD D X ad sz K) 0 0 (AA ad sz) := by
  refine a_start (cc := cX6_explained) (maxL := 2) (ret := (some .double)) (own := RX6) [Value.ref (ad 0)] (by decide) rfl rfl (Nat.le_of_ble_eq_true rfl) hinj hl0 ?_
  intro p e s m below meth c a hr hsz
  subst hsz
  have hts := a.1.2.2.2.2
  have tb : tyc 0 (10, 0) := ⟨by decide, rfl⟩
  have w1 := hts (Cond.fieldLink RX6 19 "SightLegend" "legend" "LSightLegend$Legend;") (List.mem_cons_of_mem _ (GL_1 _ (by decide +kernel)))
  have w2 : ∀ w ∈ u_ws RX6 TX6 8, w ∈ WW (.code yX6_explained cX6_explained 2 (some .double)) := fun w h => List.mem_cons_of_mem _ (inlX6 w h)
  have w3 : tyc 14 (5, 0) := ty_of (d := 14) (t1 := (5, 0)) (by decide +kernel) rfl tb
  have w4 := hts (Cond.fieldLink RX6 10 "SightLegend" "map" "LSightLegend$MapState;") (List.mem_cons_of_mem _ (GL_1 _ (by decide +kernel)))
  have w5 : tyc 1 (7, 0) := ty_of (d := 1) (t1 := (7, 0)) (by decide +kernel) rfl tb
  have w6 := hts (Cond.fieldLink RX6 174 "SightLegend$Legend" "shownCount" "I") (List.mem_cons_of_mem _ (GL_15 _ (by decide +kernel)))
  have w7 : ∀ w ∈ u_ws RX1 TX1 12, w ∈ WW (.code yX6_explained cX6_explained 2 (some .double)) := fun w h => List.mem_cons_of_mem _ (inlX1 w h)
  have w8 := hts (Cond.fieldLink RX6 177 "SightLegend$Legend" "explainedCount" "I") (List.mem_cons_of_mem _ (GL_15 _ (by decide +kernel)))
  unfold f_X6_explained at h
  refine a_sub (ls1 := [(0, Value.ref (ad 0))]) [0] rfl ?_
  refine a_aload_n (pc := 0) a 0 dX6_explained_0 rfl rfl ?_
  refine a_getR (pc := 1) a 1 1 rfl tb vc6 w2 w1 (by decide) (by decide) 14 (q := 14) rfl rfl dX6_explained_1 ?_
  refine a_aload_n (pc := 4) a 0 dX6_explained_4 rfl rfl ?_
  refine a_getR (pc := 5) a 0 0 rfl tb vc6 w2 w4 (by decide) (by decide) 1 (q := 1) rfl rfl dX6_explained_5 ?_
  refine a_cvv (pc := 8) a (As := [Value.ref (ad 1)]) (rest := []) w3 vc1 (fun sz => c_X1_make hinj hl0 w3 w5 h sz) (cwV 1 hts (gl_V (GL_7 _ (by decide +kernel)) (GL_7 _ (by decide +kernel)) (GL_7 _ (by decide +kernel)) (GL_1 _ (by decide +kernel)) (GL_7 _ (by decide +kernel))) rfl rfl rfl (by decide +kernel) ⟨Nat.le_of_ble_eq_true rfl, Nat.le_of_ble_eq_true rfl⟩) rfl rfl (Nat.le_of_ble_eq_true rfl) ⟨Nat.le_of_ble_eq_true rfl, Nat.le_of_ble_eq_true rfl⟩ dX6_explained_8 ?_
  clear h
  intro s1 h
  refine a_aload_n (pc := 11) a 0 dX6_explained_11 rfl rfl ?_
  refine a_getR (pc := 12) a 1 1 rfl tb vc6 w2 w1 (by decide) (by decide) 14 (q := 14) rfl rfl dX6_explained_12 ?_
  refine a_getI (pc := 15) a 3 3 rfl w3 vc1 w7 w6 (by decide) (by decide) rfl dX6_explained_15 ?_
  refine a_nm (fun x2 hx => ?_)
  replace h := h x2 hx
  clear hx
  refine a_istore_n (pc := 18) a (ls1 := [(1, vI x2), (0, Value.ref (ad 0))]) dX6_explained_18 rfl (by decide) rfl ?_
  refine a_iload_n (pc := 19) a 0 dX6_explained_19 rfl rfl ?_
  refine a_if_le (pc := 20) a h.1 dX6_explained_20 (tgt := 37) (by decide) (fun hq => ?_) (fun hq => ?_)
  · replace h := h.2.1 hq
    clear hq
    refine a_dconst1 (pc := 37) a dX6_explained_37 ?_
    exact e_d (pc := 38) a hr dX6_explained_38 h
  · replace h := h.2.2 hq
    clear hq
    refine a_aload_n (pc := 23) a 1 dX6_explained_23 rfl rfl ?_
    refine a_getR (pc := 24) a 1 1 rfl tb vc6 w2 w1 (by decide) (by decide) 14 (q := 14) rfl rfl dX6_explained_24 ?_
    refine a_getI (pc := 27) a 4 4 rfl w3 vc1 w7 w8 (by decide) (by decide) rfl dX6_explained_27 ?_
    refine a_i2d (pc := 30) a dX6_explained_30 ?_
    refine a_iload_n (pc := 31) a 0 dX6_explained_31 rfl rfl ?_
    refine a_i2d (pc := 32) a dX6_explained_32 ?_
    refine a_ddiv (pc := 33) a h.1 dX6_explained_33 ?_
    replace h := h.2
    refine a_goto (pc := 34) a dX6_explained_34 (tgt := 38) (by decide) ?_
    exact e_d (pc := 38) a hr dX6_explained_38 h
