set_option maxRecDepth 100000 in
set_option maxHeartbeats 4000000 in
theorem c_X7_thrown {l : Launch} {D : va_G} {X : XI} {ad : Nat → Nat} (hinj : adI ad) (hl0 : l.stackTraces = false)   {σ : St} {K : Int → Prop} (h : f_X7_thrown σ K) (sz : Nat) : Met l yX7_thrown (WW (.code yX7_thrown cX7_thrown 1 (some .int))) { frames := 0, cells := 0, slots := 0, locals := 0 } (va_Pc [Value.ref (ad 161)] (WD D X ad σ sz)) (QI D X ad sz (fun r τ => τ = σ ∧ K r)) 0 0 (AA ad sz) := by
  refine a_start (cc := cX7_thrown) (maxL := 1) (ret := (some .int)) (own := RX7) [Value.ref (ad 161)] (by decide) rfl rfl (Nat.le_of_ble_eq_true rfl) hinj hl0 ?_
  intro p e s m below meth c a hr hsz
  subst hsz
  have hts := a.1.2.2.2.2
  have tb : tyc 161 (11, 0) := ⟨by decide, rfl⟩
  have w1 := hts (Cond.fieldLink RX7 53 "SightLegendModel" "thrown" "I") (List.mem_cons_of_mem _ (GL_8 _ (by decide +kernel)))
  have w2 : ∀ w ∈ u_ws RX7 TX7 29, w ∈ WW (.code yX7_thrown cX7_thrown 1 (some .int)) := fun w h => List.mem_cons_of_mem _ (inlX7 w h)
  unfold f_X7_thrown at h
  refine a_sub (ls1 := [(0, Value.ref (ad 161))]) [0] rfl ?_
  refine a_aload_n (pc := 0) a 0 dX7_thrown_0 rfl rfl ?_
  refine a_getI (pc := 1) a 7 7 rfl tb vc7 w2 w1 (by decide) (by decide) rfl dX7_thrown_1 ?_
  exact e_i (pc := 4) a hr dX7_thrown_4 ⟨rfl, h⟩

set_option maxRecDepth 100000 in
set_option maxHeartbeats 4000000 in
theorem c_X7_in {l : Launch} {D : va_G} {X : XI} {ad : Nat → Nat} (hinj : adI ad) (hl0 : l.stackTraces = false) {p1 : Int} {p2 : Int} {p3 : Int}  {σ : St} {K : Int → Prop} (h : f_X7_in p1 p2 p3 σ K) (sz : Nat) : Met l yX7_in (WW (.code yX7_in cX7_in 3 (some .boolean))) { frames := 0, cells := 0, slots := 0, locals := 0 } (va_Pc [vI p1, vI p2, vI p3] (WD D X ad σ sz)) (QI D X ad sz (fun r τ => τ = σ ∧ K r)) 0 0 (AA ad sz) := by
  refine a_start (cc := cX7_in) (maxL := 3) (ret := (some .boolean)) (own := RX7) [vI p1, vI p2, vI p3] (by decide) rfl rfl (Nat.le_of_ble_eq_true rfl) hinj hl0 ?_
  intro p e s m below meth c a hr hsz
  subst hsz
  have hts := a.1.2.2.2.2
  unfold f_X7_in at h
  refine a_sub (ls1 := [(0, vI p1), (1, vI p2), (2, vI p3)]) [0, 1, 2] rfl ?_
  refine a_iload_n (pc := 0) a 0 dX7_in_0 rfl rfl ?_
  refine a_iload_n (pc := 1) a 1 dX7_in_1 rfl rfl ?_
  refine a_icmp_lt (pc := 2) a h.1 h.2.1 dX7_in_2 (tgt := 14) (by decide) (fun hq => ?_) (fun hq => ?_)
  · replace h := h.2.2.1 hq
    clear hq
    refine a_iconst (pc := 14) a dX7_in_14 ?_
    exact e_z (pc := 15) a hr (by decide) dX7_in_15 ⟨rfl, h⟩
  · replace h := h.2.2.2 hq
    clear hq
    refine a_iload_n (pc := 5) a 0 dX7_in_5 rfl rfl ?_
    refine a_iload_n (pc := 6) a 2 dX7_in_6 rfl rfl ?_
    refine a_icmp_gt (pc := 7) a h.1 h.2.1 dX7_in_7 (tgt := 14) (by decide) (fun hq => ?_) (fun hq => ?_)
    · replace h := h.2.2.1 hq
      clear hq
      refine a_iconst (pc := 14) a dX7_in_14 ?_
      exact e_z (pc := 15) a hr (by decide) dX7_in_15 ⟨rfl, h⟩
    · replace h := h.2.2.2 hq
      clear hq
      refine a_iconst (pc := 10) a dX7_in_10 ?_
      refine a_goto (pc := 11) a dX7_in_11 (tgt := 15) (by decide) ?_
      exact e_z (pc := 15) a hr (by decide) dX7_in_15 ⟨rfl, h⟩

set_option maxRecDepth 100000 in
set_option maxHeartbeats 4000000 in
theorem c_X7_fails {l : Launch} {D : va_G} {X : XI} {ad : Nat → Nat} (hinj : adI ad) (hl0 : l.stackTraces = false) {p1 : Int}  {σ : St} {K : Int → St → Prop} (h : f_X7_fails p1 σ K) (sz : Nat) : Met l yX7_fails (WW (.code yX7_fails cX7_fails 2 (some .int))) { frames := 0, cells := 0, slots := 0, locals := 0 } (va_Pc [Value.ref (ad 161), vI p1] (WD D X ad σ sz)) (QI D X ad sz K) 0 0 (AA ad sz) := by
  refine a_start (cc := cX7_fails) (maxL := 2) (ret := (some .int)) (own := RX7) [Value.ref (ad 161), vI p1] (by decide) rfl rfl (Nat.le_of_ble_eq_true rfl) hinj hl0 ?_
  intro p e s m below meth c a hr hsz
  subst hsz
  have hts := a.1.2.2.2.2
  have tb : tyc 161 (11, 0) := ⟨by decide, rfl⟩
  have w1 := hts (Cond.fieldLink RX7 53 "SightLegendModel" "thrown" "I") (List.mem_cons_of_mem _ (GL_8 _ (by decide +kernel)))
  have w2 : ∀ w ∈ u_ws RX7 TX7 29, w ∈ WW (.code yX7_fails cX7_fails 2 (some .int)) := fun w h => List.mem_cons_of_mem _ (inlX7 w h)
  unfold f_X7_fails at h
  refine a_sub (ls1 := [(0, Value.ref (ad 161)), (1, vI p1)]) [0, 1] rfl ?_
  refine a_aload_n (pc := 0) a 0 dX7_fails_0 rfl rfl ?_
  refine a_iload_n (pc := 1) a 1 dX7_fails_1 rfl rfl ?_
  refine a_putI (pc := 2) a 7 7 rfl tb vc7 w2 w1 (by decide) (by decide) tyX7 tyX7_ok nmX7 rfl rfl (by decide +kernel) dX7_fails_2 ?_
  refine a_nmS (fun s1 hx => ?_)
  replace h := h s1 hx
  clear hx
  refine a_iconst (pc := 5) a dX7_fails_5 ?_
  exact e_i (pc := 6) a hr dX7_fails_6 h

set_option maxRecDepth 100000 in
set_option maxHeartbeats 4000000 in
theorem c_X7_tells {l : Launch} {D : va_G} {X : XI} {ad : Nat → Nat} (hinj : adI ad) (hl0 : l.stackTraces = false) {p1 : Int}  {σ : St} {K : Int → St → Prop} (h : f_X7_tells p1 σ K) (sz : Nat) : Met l yX7_tells (WW (.code yX7_tells cX7_tells 2 (some .int))) { frames := 0, cells := 0, slots := 0, locals := 0 } (va_Pc [Value.ref (ad 161), vI p1] (WD D X ad σ sz)) (QI D X ad sz K) 0 0 (AA ad sz) := by
  refine a_start (cc := cX7_tells) (maxL := 2) (ret := (some .int)) (own := RX7) [Value.ref (ad 161), vI p1] (by decide) rfl rfl (Nat.le_of_ble_eq_true rfl) hinj hl0 ?_
  intro p e s m below meth c a hr hsz
  subst hsz
  have hts := a.1.2.2.2.2
  have tb : tyc 161 (11, 0) := ⟨by decide, rfl⟩
  have w1 := hts (Cond.fieldLink RX7 53 "SightLegendModel" "thrown" "I") (List.mem_cons_of_mem _ (GL_8 _ (by decide +kernel)))
  have w2 : ∀ w ∈ u_ws RX7 TX7 29, w ∈ WW (.code yX7_tells cX7_tells 2 (some .int)) := fun w h => List.mem_cons_of_mem _ (inlX7 w h)
  unfold f_X7_tells at h
  refine a_sub (ls1 := [(0, Value.ref (ad 161)), (1, vI p1)]) [0, 1] rfl ?_
  refine a_aload_n (pc := 0) a 0 dX7_tells_0 rfl rfl ?_
  refine a_iconst (pc := 1) a dX7_tells_1 ?_
  refine a_putI (pc := 2) a 7 7 rfl tb vc7 w2 w1 (by decide) (by decide) tyX7 tyX7_ok nmX7 rfl rfl (by decide +kernel) dX7_tells_2 ?_
  refine a_nmS (fun s1 hx => ?_)
  replace h := h s1 hx
  clear hx
  refine a_iload_n (pc := 5) a 1 dX7_tells_5 rfl rfl ?_
  exact e_i (pc := 6) a hr dX7_tells_6 h

set_option maxRecDepth 100000 in
set_option maxHeartbeats 4000000 in
theorem c_X7_copies {l : Launch} {D : va_G} {X : XI} {ad : Nat → Nat} (hinj : adI ad) (hl0 : l.stackTraces = false) {q1 : Nat} {q2 : Nat} (tq1 : tyc q1 (0, 311)) (tq2 : tyc q2 (0, 311)) {σ : St} {K : St → Prop} (h : f_X7_copies q1 q2 σ K) (sz : Nat) : Met l yX7_copies (WW (.code yX7_copies cX7_copies 3 none)) { frames := 0, cells := 0, slots := 0, locals := 0 } (va_Pc [Value.ref (ad q1), Value.ref (ad q2)] (WD D X ad σ sz)) (QV D X ad sz K) 0 0 (AA ad sz) := by
  refine a_start (cc := cX7_copies) (maxL := 3) (ret := none) (own := RX7) [Value.ref (ad q1), Value.ref (ad q2)] (by decide) rfl rfl (Nat.le_of_ble_eq_true rfl) hinj hl0 ?_
  intro p e s m below meth c a hr hsz
  subst hsz
  have hts := a.1.2.2.2.2
  unfold f_X7_copies at h
  refine a_sub (ls1 := [(0, Value.ref (ad q1)), (1, Value.ref (ad q2))]) [0, 1] rfl ?_
  refine a_iconst (pc := 0) a dX7_copies_0 ?_
  refine a_istore_n (pc := 1) a (ls1 := [(2, vI 0), (0, Value.ref (ad q1)), (1, Value.ref (ad q2))]) dX7_copies_1 rfl (by decide) rfl ?_
  refine a_sub (ls1 := [(0, Value.ref (ad q1)), (1, Value.ref (ad q2)), (2, vI 0)]) [1, 2, 0] rfl ?_
  refine g_wl1s (fun x1 => [(0, Value.ref (ad q1)), (1, Value.ref (ad q2)), (2, vI x1)]) h ?_
  clear h
  intro x1 s2 ag2 hag2 h
  refine a_iload_n (pc := 2) a 2 dX7_copies_2 rfl rfl ?_
  refine a_sipush (pc := 3) a dX7_copies_3 (by decide) ?_
  refine a_icmp_ge (pc := 6) a h.1 ⟨by decide, by decide⟩ dX7_copies_6 (tgt := 21) (by decide) (fun hq => ?_) (fun hq => ?_)
  · replace h := h.2.1 hq
    clear hq
    exact e_v (pc := 21) a hr dX7_copies_21 h
  · replace h := h.2.2 hq
    clear hq
    refine a_aload_n (pc := 9) a 0 dX7_copies_9 rfl rfl ?_
    refine a_iload_n (pc := 10) a 2 dX7_copies_10 rfl rfl ?_
    refine a_aload_n (pc := 11) a 1 dX7_copies_11 rfl rfl ?_
    refine a_iload_n (pc := 12) a 2 dX7_copies_12 rfl rfl ?_
    refine a_iald (pc := 13) a tq2 (by decide) h.1 dX7_copies_13 ?_
    replace h := h.2
    refine a_iast (pc := 14) a tq1 (by decide) h.1 dX7_copies_14 ?_
    replace h := h.2
    refine a_nmS (fun s3 hx => ?_)
    replace h := h s3 hx
    clear hx
    refine a_iinc (pc := 15) a (ls1 := [(2, vI (x1 + 1)), (0, Value.ref (ad q1)), (1, Value.ref (ad q2))]) 2 dX7_copies_15 rfl (by decide) rfl ?_
    refine a_goto (pc := 18) a dX7_copies_18 (tgt := 2) (by decide) ?_
    refine a_sub (ls1 := [(0, Value.ref (ad q1)), (1, Value.ref (ad q2)), (2, vI (x1 + 1))]) [1, 2, 0] rfl ?_
    exact hag2 (x1 + 1) s3 h

set_option maxRecDepth 100000 in
set_option maxHeartbeats 4000000 in
theorem c_X7_hold {l : Launch} {D : va_G} {X : XI} {ad : Nat → Nat} (hinj : adI ad) (hl0 : l.stackTraces = false)   {σ : St} {K : St → Prop} (h : f_X7_hold σ K) (sz : Nat) : Met l yX7_hold (WW (.code yX7_hold cX7_hold 1 none)) { frames := 1, cells := 0, slots := 0, locals := 22 } (va_Pc [Value.ref (ad 161)] (WD D X ad σ sz)) (QV D X ad sz K) 0 0 (AA ad sz) := by
  refine a_start (cc := cX7_hold) (maxL := 1) (ret := none) (own := RX7) [Value.ref (ad 161)] (by decide) rfl rfl (Nat.le_of_ble_eq_true rfl) hinj hl0 ?_
  intro p e s m below meth c a hr hsz
  subst hsz
  have hts := a.1.2.2.2.2
  have tb : tyc 161 (11, 0) := ⟨by decide, rfl⟩
  have w1 := hts (Cond.fieldLink RX7 16 "SightLegendModel" "aside" "[I") (List.mem_cons_of_mem _ (GL_5 _ (by decide +kernel)))
  have w2 : ∀ w ∈ u_ws RX7 TX7 29, w ∈ WW (.code yX7_hold cX7_hold 1 none) := fun w h => List.mem_cons_of_mem _ (inlX7 w h)
  have w3 : tyc 164 (0, 311) := ty_of (d := 3) (t1 := (0, 311)) (by decide +kernel) rfl tb
  have w4 := hts (Cond.fieldLink RX7 7 "SightLegendModel" "s" "[I") (List.mem_cons_of_mem _ (GL_5 _ (by decide +kernel)))
  have w5 : tyc 162 (0, 311) := ty_of (d := 1) (t1 := (0, 311)) (by decide +kernel) rfl tb
  unfold f_X7_hold at h
  refine a_sub (ls1 := [(0, Value.ref (ad 161))]) [0] rfl ?_
  refine a_aload_n (pc := 0) a 0 dX7_hold_0 rfl rfl ?_
  refine a_getR (pc := 1) a 2 2 rfl tb vc7 w2 w1 (by decide) (by decide) 3 (q := 164) rfl rfl dX7_hold_1 ?_
  refine a_aload_n (pc := 4) a 0 dX7_hold_4 rfl rfl ?_
  refine a_getR (pc := 5) a 0 0 rfl tb vc7 w2 w4 (by decide) (by decide) 1 (q := 162) rfl rfl dX7_hold_5 ?_
  refine a_csv (pc := 8) a (As := [Value.ref (ad 164), Value.ref (ad 162)]) (rest := []) (fun sz => c_X7_copies hinj hl0 w3 w5 h sz) (va_cwS 2 hts (gl_S (GL_8 _ (by decide +kernel)) (GL_8 _ (by decide +kernel)) (GL_1 _ (by decide +kernel)) (GL_8 _ (by decide +kernel))) rfl rfl rfl (by decide +kernel) ⟨Nat.le_of_ble_eq_true rfl, Nat.le_of_ble_eq_true rfl⟩) rfl rfl (Nat.le_of_ble_eq_true rfl) ⟨Nat.le_of_ble_eq_true rfl, Nat.le_of_ble_eq_true rfl⟩ dX7_hold_8 ?_
  clear h
  intro s1 h
  exact e_v (pc := 11) a hr dX7_hold_11 h

set_option maxRecDepth 100000 in
set_option maxHeartbeats 4000000 in
theorem c_X7_ends {l : Launch} {D : va_G} {X : XI} {ad : Nat → Nat} (hinj : adI ad) (hl0 : l.stackTraces = false) {p1 : Int}  {σ : St} {K : Int → St → Prop} (h : f_X7_ends p1 σ K) (sz : Nat) : Met l yX7_ends (WW (.code yX7_ends cX7_ends 3 (some .int))) { frames := 1, cells := 0, slots := 0, locals := 21 } (va_Pc [Value.ref (ad 161), vI p1] (WD D X ad σ sz)) (QI D X ad sz K) 0 0 (AA ad sz) := by
  refine a_start (cc := cX7_ends) (maxL := 3) (ret := (some .int)) (own := RX7) [Value.ref (ad 161), vI p1] (by decide) rfl rfl (Nat.le_of_ble_eq_true rfl) hinj hl0 ?_
  intro p e s m below meth c a hr hsz
  subst hsz
  have hts := a.1.2.2.2.2
  have tb : tyc 161 (11, 0) := ⟨by decide, rfl⟩
  have w1 := hts (Cond.fieldLink RX7 61 "SightLegendModel" "pasts" "I") (List.mem_cons_of_mem _ (GL_8 _ (by decide +kernel)))
  have w2 : ∀ w ∈ u_ws RX7 TX7 29, w ∈ WW (.code yX7_ends cX7_ends 3 (some .int)) := fun w h => List.mem_cons_of_mem _ (inlX7 w h)
  have w3 := hts (Cond.fieldLink RX7 13 "SightLegendModel" "past" "[I") (List.mem_cons_of_mem _ (GL_5 _ (by decide +kernel)))
  have w4 : tyc 163 (0, 1244) := ty_of (d := 2) (t1 := (0, 1244)) (by decide +kernel) rfl tb
  have w5 := hts (Cond.fieldLink RX7 16 "SightLegendModel" "aside" "[I") (List.mem_cons_of_mem _ (GL_5 _ (by decide +kernel)))
  have w6 : tyc 164 (0, 311) := ty_of (d := 3) (t1 := (0, 311)) (by decide +kernel) rfl tb
  unfold f_X7_ends at h
  refine a_sub (ls1 := [(0, Value.ref (ad 161)), (1, vI p1)]) [0, 1] rfl ?_
  refine a_aload_n (pc := 0) a 0 dX7_ends_0 rfl rfl ?_
  refine a_getI (pc := 1) a 4 4 rfl tb vc7 w2 w1 (by decide) (by decide) rfl dX7_ends_1 ?_
  refine a_iconst (pc := 4) a dX7_ends_4 ?_
  refine g_wj0s 49 0 0 [(0, Value.ref (ad 161)), (1, vI p1)] [] h ?_ ?_
  · clear h
    intro s6 h
    refine a_iconst (pc := 49) a dX7_ends_49 ?_
    refine a_istore_n (pc := 50) a (ls1 := [(2, vI 0), (0, Value.ref (ad 161)), (1, vI p1)]) dX7_ends_50 rfl (by decide) rfl ?_
    refine a_sub (ls1 := [(0, Value.ref (ad 161)), (1, vI p1), (2, vI 0)]) [1, 2, 0] rfl ?_
    refine g_wl1s (fun x7 => [(0, Value.ref (ad 161)), (1, vI p1), (2, vI x7)]) h ?_
    clear h
    intro x7 s8 ag51 hag51 h
    refine a_iload_n (pc := 51) a 2 dX7_ends_51 rfl rfl ?_
    refine a_sipush (pc := 52) a dX7_ends_52 (by decide) ?_
    refine a_icmp_ge (pc := 55) a h.1 ⟨by decide, by decide⟩ dX7_ends_55 (tgt := 85) (by decide) (fun hq => ?_) (fun hq => ?_)
    · replace h := h.2.1 hq
      clear hq
      refine a_aload_n (pc := 85) a 0 dX7_ends_85 rfl rfl ?_
      refine a_dup (pc := 86) a rfl dX7_ends_86 ?_
      refine a_getI (pc := 87) a 4 4 rfl tb vc7 w2 w1 (by decide) (by decide) rfl dX7_ends_87 ?_
      refine a_iconst (pc := 90) a dX7_ends_90 ?_
      refine a_iadd (pc := 91) a dX7_ends_91 ?_
      refine a_putI (pc := 92) a 4 4 rfl tb vc7 w2 w1 (by decide) (by decide) tyX7 tyX7_ok nmX7 rfl rfl (by decide +kernel) dX7_ends_92 ?_
      refine a_nmS (fun s9 hx => ?_)
      replace h := h s9 hx
      clear hx
      refine a_aload_n (pc := 95) a 0 dX7_ends_95 rfl rfl ?_
      refine a_iload_n (pc := 96) a 1 dX7_ends_96 rfl rfl ?_
      refine a_cvi (pc := 97) a (As := [vI p1]) (rest := []) tb vc7 (fun sz => c_X7_tells hinj hl0  h sz) (cwV 1 hts (gl_V (GL_8 _ (by decide +kernel)) (GL_8 _ (by decide +kernel)) (GL_8 _ (by decide +kernel)) (GL_1 _ (by decide +kernel)) (GL_9 _ (by decide +kernel))) rfl rfl rfl (by decide +kernel) ⟨Nat.le_of_ble_eq_true rfl, Nat.le_of_ble_eq_true rfl⟩) rfl rfl (Nat.le_of_ble_eq_true rfl) ⟨Nat.le_of_ble_eq_true rfl, Nat.le_of_ble_eq_true rfl⟩ dX7_ends_97 ?_
      clear h
      intro x10 s11 h
      exact e_i (pc := 100) a hr dX7_ends_100 h
    · replace h := h.2.2 hq
      clear hq
      refine a_aload_n (pc := 58) a 0 dX7_ends_58 rfl rfl ?_
      refine a_getR (pc := 59) a 1 1 rfl tb vc7 w2 w3 (by decide) (by decide) 2 (q := 163) rfl rfl dX7_ends_59 ?_
      refine a_sipush (pc := 62) a dX7_ends_62 (by decide) ?_
      refine a_aload_n (pc := 65) a 0 dX7_ends_65 rfl rfl ?_
      refine a_getI (pc := 66) a 4 4 rfl tb vc7 w2 w1 (by decide) (by decide) rfl dX7_ends_66 ?_
      refine a_imul (pc := 69) a dX7_ends_69 ?_
      refine a_iload_n (pc := 70) a 2 dX7_ends_70 rfl rfl ?_
      refine a_iadd (pc := 71) a dX7_ends_71 ?_
      refine a_aload_n (pc := 72) a 0 dX7_ends_72 rfl rfl ?_
      refine a_getR (pc := 73) a 2 2 rfl tb vc7 w2 w5 (by decide) (by decide) 3 (q := 164) rfl rfl dX7_ends_73 ?_
      refine a_iload_n (pc := 76) a 2 dX7_ends_76 rfl rfl ?_
      refine a_iald (pc := 77) a w6 (by decide) h.1 dX7_ends_77 ?_
      replace h := h.2
      refine a_iast (pc := 78) a w4 (by decide) h.1 dX7_ends_78 ?_
      replace h := h.2
      refine a_nmS (fun s12 hx => ?_)
      replace h := h s12 hx
      clear hx
      refine a_iinc (pc := 79) a (ls1 := [(2, vI (x7 + 1)), (0, Value.ref (ad 161)), (1, vI p1)]) 2 dX7_ends_79 rfl (by decide) rfl ?_
      refine a_goto (pc := 82) a dX7_ends_82 (tgt := 51) (by decide) ?_
      refine a_sub (ls1 := [(0, Value.ref (ad 161)), (1, vI p1), (2, vI (x7 + 1))]) [1, 2, 0] rfl ?_
      exact hag51 (x7 + 1) s12 h
  · clear h
    intro jj49 hjj49 h
    refine a_icmp_ne (pc := 5) a h.1 ⟨by decide, by decide⟩ dX7_ends_5 (tgt := 49) (by decide) (fun hq => ?_) (fun hq => ?_)
    · replace h := h.2.1 hq
      clear hq
      exact hjj49 σ h
    · replace h := h.2.2 hq
      clear hq
      refine a_iconst (pc := 8) a dX7_ends_8 ?_
      refine a_istore_n (pc := 9) a (ls1 := [(2, vI 0), (0, Value.ref (ad 161)), (1, vI p1)]) dX7_ends_9 rfl (by decide) rfl ?_
      refine a_sub (ls1 := [(0, Value.ref (ad 161)), (1, vI p1), (2, vI 0)]) [1, 2, 0] rfl ?_
      refine g_wl1s (fun x2 => [(0, Value.ref (ad 161)), (1, vI p1), (2, vI x2)]) h ?_
      clear h
      intro x2 s3 ag10 hag10 h
      refine a_iload_n (pc := 10) a 2 dX7_ends_10 rfl rfl ?_
      refine a_sipush (pc := 11) a dX7_ends_11 (by decide) ?_
      refine a_icmp_ge (pc := 14) a h.1 ⟨by decide, by decide⟩ dX7_ends_14 (tgt := 39) (by decide) (fun hq => ?_) (fun hq => ?_)
      · replace h := h.2.1 hq
        clear hq
        refine a_aload_n (pc := 39) a 0 dX7_ends_39 rfl rfl ?_
        refine a_dup (pc := 40) a rfl dX7_ends_40 ?_
        refine a_getI (pc := 41) a 4 4 rfl tb vc7 w2 w1 (by decide) (by decide) rfl dX7_ends_41 ?_
        refine a_iconst (pc := 44) a dX7_ends_44 ?_
        refine a_isub (pc := 45) a dX7_ends_45 ?_
        refine a_putI (pc := 46) a 4 4 rfl tb vc7 w2 w1 (by decide) (by decide) tyX7 tyX7_ok nmX7 rfl rfl (by decide +kernel) dX7_ends_46 ?_
        refine a_nmS (fun s4 hx => ?_)
        replace h := h s4 hx
        clear hx
        refine a_sub (ls1 := [(0, Value.ref (ad 161)), (1, vI p1)]) [0, 1] rfl ?_
        exact hjj49 s4 h
      · replace h := h.2.2 hq
        clear hq
        refine a_aload_n (pc := 17) a 0 dX7_ends_17 rfl rfl ?_
        refine a_getR (pc := 18) a 1 1 rfl tb vc7 w2 w3 (by decide) (by decide) 2 (q := 163) rfl rfl dX7_ends_18 ?_
        refine a_iload_n (pc := 21) a 2 dX7_ends_21 rfl rfl ?_
        refine a_aload_n (pc := 22) a 0 dX7_ends_22 rfl rfl ?_
        refine a_getR (pc := 23) a 1 1 rfl tb vc7 w2 w3 (by decide) (by decide) 2 (q := 163) rfl rfl dX7_ends_23 ?_
        refine a_iload_n (pc := 26) a 2 dX7_ends_26 rfl rfl ?_
        refine a_sipush (pc := 27) a dX7_ends_27 (by decide) ?_
        refine a_iadd (pc := 30) a dX7_ends_30 ?_
        refine a_iald (pc := 31) a w4 (by decide) h.1 dX7_ends_31 ?_
        replace h := h.2
        refine a_iast (pc := 32) a w4 (by decide) h.1 dX7_ends_32 ?_
        replace h := h.2
        refine a_nmS (fun s5 hx => ?_)
        replace h := h s5 hx
        clear hx
        refine a_iinc (pc := 33) a (ls1 := [(2, vI (x2 + 1)), (0, Value.ref (ad 161)), (1, vI p1)]) 2 dX7_ends_33 rfl (by decide) rfl ?_
        refine a_goto (pc := 36) a dX7_ends_36 (tgt := 10) (by decide) ?_
        refine a_sub (ls1 := [(0, Value.ref (ad 161)), (1, vI p1), (2, vI (x2 + 1))]) [1, 2, 0] rfl ?_
        exact hag10 (x2 + 1) s5 h

set_option maxRecDepth 100000 in
set_option maxHeartbeats 4000000 in
theorem c_X7_isKind {l : Launch} {D : va_G} {X : XI} {ad : Nat → Nat} (hinj : adI ad) (hl0 : l.stackTraces = false) {p1 : Int}  {σ : St} {K : Int → Prop} (h : f_X7_isKind p1 σ K) (sz : Nat) : Met l yX7_isKind (WW (.code yX7_isKind cX7_isKind 1 (some .boolean))) { frames := 1, cells := 0, slots := 0, locals := 22 } (va_Pc [vI p1] (WD D X ad σ sz)) (QI D X ad sz (fun r τ => τ = σ ∧ K r)) 0 0 (AA ad sz) := by
  refine a_start (cc := cX7_isKind) (maxL := 1) (ret := (some .boolean)) (own := RX7) [vI p1] (by decide) rfl rfl (Nat.le_of_ble_eq_true rfl) hinj hl0 ?_
  intro p e s m below meth c a hr hsz
  subst hsz
  have hts := a.1.2.2.2.2
  unfold f_X7_isKind at h
  refine a_sub (ls1 := [(0, vI p1)]) [0] rfl ?_
  refine a_iload_n (pc := 0) a 0 dX7_isKind_0 rfl rfl ?_
  refine a_iconst (pc := 1) a dX7_isKind_1 ?_
  refine a_bipush (pc := 2) a dX7_isKind_2 (by decide) ?_
  refine a_csi (pc := 4) a (As := [vI p1, vI 0, vI 11]) (rest := []) (fun sz => c_X7_in hinj hl0  h sz) (va_cwS 3 hts (gl_S (GL_8 _ (by decide +kernel)) (GL_8 _ (by decide +kernel)) (GL_1 _ (by decide +kernel)) (GL_8 _ (by decide +kernel))) rfl rfl rfl (by decide +kernel) ⟨Nat.le_of_ble_eq_true rfl, Nat.le_of_ble_eq_true rfl⟩) rfl rfl (Nat.le_of_ble_eq_true rfl) ⟨Nat.le_of_ble_eq_true rfl, Nat.le_of_ble_eq_true rfl⟩ dX7_isKind_4 ?_
  rintro x1 s9 ⟨hs9, h9⟩
  subst s9
  replace h := h9
  clear h9
  exact e_z (pc := 7) a hr h.1 dX7_isKind_7 ⟨rfl, h.2⟩

set_option maxRecDepth 100000 in
set_option maxHeartbeats 4000000 in
theorem c_X7_isSign {l : Launch} {D : va_G} {X : XI} {ad : Nat → Nat} (hinj : adI ad) (hl0 : l.stackTraces = false) {p1 : Int}  {σ : St} {K : Int → Prop} (h : f_X7_isSign p1 σ K) (sz : Nat) : Met l yX7_isSign (WW (.code yX7_isSign cX7_isSign 2 (some .boolean))) { frames := 0, cells := 0, slots := 0, locals := 0 } (va_Pc [Value.ref (ad 161), vI p1] (WD D X ad σ sz)) (QI D X ad sz (fun r τ => τ = σ ∧ K r)) 0 0 (AA ad sz) := by
  refine a_start (cc := cX7_isSign) (maxL := 2) (ret := (some .boolean)) (own := RX7) [Value.ref (ad 161), vI p1] (by decide) rfl rfl (Nat.le_of_ble_eq_true rfl) hinj hl0 ?_
  intro p e s m below meth c a hr hsz
  subst hsz
  have hts := a.1.2.2.2.2
  have tb : tyc 161 (11, 0) := ⟨by decide, rfl⟩
  have w1 := hts (Cond.fieldLink RX7 7 "SightLegendModel" "s" "[I") (List.mem_cons_of_mem _ (GL_5 _ (by decide +kernel)))
  have w2 : ∀ w ∈ u_ws RX7 TX7 29, w ∈ WW (.code yX7_isSign cX7_isSign 2 (some .boolean)) := fun w h => List.mem_cons_of_mem _ (inlX7 w h)
  have w3 : tyc 162 (0, 311) := ty_of (d := 1) (t1 := (0, 311)) (by decide +kernel) rfl tb
  unfold f_X7_isSign at h
  refine a_sub (ls1 := [(0, Value.ref (ad 161)), (1, vI p1)]) [0, 1] rfl ?_
  refine a_iload_n (pc := 0) a 1 dX7_isSign_0 rfl rfl ?_
  refine a_if_lt (pc := 1) a h.1 dX7_isSign_1 (tgt := 19) (by decide) (fun hq => ?_) (fun hq => ?_)
  · replace h := h.2.1 hq
    clear hq
    refine a_iconst (pc := 19) a dX7_isSign_19 ?_
    exact e_z (pc := 20) a hr (by decide) dX7_isSign_20 ⟨rfl, h⟩
  · replace h := h.2.2 hq
    clear hq
    refine a_iload_n (pc := 4) a 1 dX7_isSign_4 rfl rfl ?_
    refine a_aload_n (pc := 5) a 0 dX7_isSign_5 rfl rfl ?_
    refine a_getR (pc := 6) a 0 0 rfl tb vc7 w2 w1 (by decide) (by decide) 1 (q := 162) rfl rfl dX7_isSign_6 ?_
    refine a_bipush (pc := 9) a dX7_isSign_9 (by decide) ?_
    refine a_iald (pc := 11) a w3 (by decide) (by decide) dX7_isSign_11 ?_
    refine a_icmp_ge (pc := 12) a h.1 h.2.1 dX7_isSign_12 (tgt := 19) (by decide) (fun hq => ?_) (fun hq => ?_)
    · replace h := h.2.2.1 hq
      clear hq
      refine a_iconst (pc := 19) a dX7_isSign_19 ?_
      exact e_z (pc := 20) a hr (by decide) dX7_isSign_20 ⟨rfl, h⟩
    · replace h := h.2.2.2 hq
      clear hq
      refine a_iconst (pc := 15) a dX7_isSign_15 ?_
      refine a_goto (pc := 16) a dX7_isSign_16 (tgt := 20) (by decide) ?_
      exact e_z (pc := 20) a hr (by decide) dX7_isSign_20 ⟨rfl, h⟩

set_option maxRecDepth 100000 in
set_option maxHeartbeats 4000000 in
theorem c_X7_of {l : Launch} {D : va_G} {X : XI} {ad : Nat → Nat} (hinj : adI ad) (hl0 : l.stackTraces = false) {p1 : Int} {p2 : Int}  {σ : St} {K : Int → Prop} (h : f_X7_of p1 p2 σ K) (sz : Nat) : Met l yX7_of (WW (.code yX7_of cX7_of 3 (some .int))) { frames := 0, cells := 0, slots := 0, locals := 0 } (va_Pc [Value.ref (ad 161), vI p1, vI p2] (WD D X ad σ sz)) (QI D X ad sz (fun r τ => τ = σ ∧ K r)) 0 0 (AA ad sz) := by
  refine a_start (cc := cX7_of) (maxL := 3) (ret := (some .int)) (own := RX7) [Value.ref (ad 161), vI p1, vI p2] (by decide) rfl rfl (Nat.le_of_ble_eq_true rfl) hinj hl0 ?_
  intro p e s m below meth c a hr hsz
  subst hsz
  have hts := a.1.2.2.2.2
  have tb : tyc 161 (11, 0) := ⟨by decide, rfl⟩
  have w1 := hts (Cond.fieldLink RX7 7 "SightLegendModel" "s" "[I") (List.mem_cons_of_mem _ (GL_5 _ (by decide +kernel)))
  have w2 : ∀ w ∈ u_ws RX7 TX7 29, w ∈ WW (.code yX7_of cX7_of 3 (some .int)) := fun w h => List.mem_cons_of_mem _ (inlX7 w h)
  have w3 : tyc 162 (0, 311) := ty_of (d := 1) (t1 := (0, 311)) (by decide +kernel) rfl tb
  unfold f_X7_of at h
  refine a_sub (ls1 := [(0, Value.ref (ad 161)), (1, vI p1), (2, vI p2)]) [0, 1, 2] rfl ?_
  refine a_aload_n (pc := 0) a 0 dX7_of_0 rfl rfl ?_
  refine a_getR (pc := 1) a 0 0 rfl tb vc7 w2 w1 (by decide) (by decide) 1 (q := 162) rfl rfl dX7_of_1 ?_
  refine a_bipush (pc := 4) a dX7_of_4 (by decide) ?_
  refine a_iconst (pc := 6) a dX7_of_6 ?_
  refine a_iload_n (pc := 7) a 1 dX7_of_7 rfl rfl ?_
  refine a_imul (pc := 8) a dX7_of_8 ?_
  refine a_iadd (pc := 9) a dX7_of_9 ?_
  refine a_iload_n (pc := 10) a 2 dX7_of_10 rfl rfl ?_
  refine a_iadd (pc := 11) a dX7_of_11 ?_
  refine a_iald (pc := 12) a w3 (by decide) h.1 dX7_of_12 ?_
  replace h := h.2
  exact e_i (pc := 13) a hr dX7_of_13 ⟨rfl, h⟩

set_option maxRecDepth 100000 in
set_option maxHeartbeats 4000000 in
theorem c_X7_rankOf {l : Launch} {D : va_G} {X : XI} {ad : Nat → Nat} (hinj : adI ad) (hl0 : l.stackTraces = false) {p1 : Int}  {σ : St} {K : Int → Prop} (h : f_X7_rankOf p1 σ K) (sz : Nat) : Met l yX7_rankOf (WW (.code yX7_rankOf cX7_rankOf 2 (some .int))) { frames := 0, cells := 0, slots := 0, locals := 0 } (va_Pc [Value.ref (ad 161), vI p1] (WD D X ad σ sz)) (QI D X ad sz (fun r τ => τ = σ ∧ K r)) 0 0 (AA ad sz) := by
  refine a_start (cc := cX7_rankOf) (maxL := 2) (ret := (some .int)) (own := RX7) [Value.ref (ad 161), vI p1] (by decide) rfl rfl (Nat.le_of_ble_eq_true rfl) hinj hl0 ?_
  intro p e s m below meth c a hr hsz
  subst hsz
  have hts := a.1.2.2.2.2
  have tb : tyc 161 (11, 0) := ⟨by decide, rfl⟩
  have w1 := hts (Cond.fieldLink RX7 7 "SightLegendModel" "s" "[I") (List.mem_cons_of_mem _ (GL_5 _ (by decide +kernel)))
  have w2 : ∀ w ∈ u_ws RX7 TX7 29, w ∈ WW (.code yX7_rankOf cX7_rankOf 2 (some .int)) := fun w h => List.mem_cons_of_mem _ (inlX7 w h)
  have w3 : tyc 162 (0, 311) := ty_of (d := 1) (t1 := (0, 311)) (by decide +kernel) rfl tb
  unfold f_X7_rankOf at h
  refine a_sub (ls1 := [(0, Value.ref (ad 161)), (1, vI p1)]) [0, 1] rfl ?_
  refine a_aload_n (pc := 0) a 0 dX7_rankOf_0 rfl rfl ?_
  refine a_getR (pc := 1) a 0 0 rfl tb vc7 w2 w1 (by decide) (by decide) 1 (q := 162) rfl rfl dX7_rankOf_1 ?_
  refine a_bipush (pc := 4) a dX7_rankOf_4 (by decide) ?_
  refine a_bipush (pc := 6) a dX7_rankOf_6 (by decide) ?_
  refine a_iload_n (pc := 8) a 1 dX7_rankOf_8 rfl rfl ?_
  refine a_imul (pc := 9) a dX7_rankOf_9 ?_
  refine a_iadd (pc := 10) a dX7_rankOf_10 ?_
  refine a_iald (pc := 11) a w3 (by decide) h.1 dX7_rankOf_11 ?_
  replace h := h.2
  exact e_i (pc := 12) a hr dX7_rankOf_12 ⟨rfl, h⟩

set_option maxRecDepth 100000 in
set_option maxHeartbeats 4000000 in
theorem c_X7_groupOf {l : Launch} {D : va_G} {X : XI} {ad : Nat → Nat} (hinj : adI ad) (hl0 : l.stackTraces = false) {p1 : Int}  {σ : St} {K : Int → Prop} (h : f_X7_groupOf p1 σ K) (sz : Nat) : Met l yX7_groupOf (WW (.code yX7_groupOf cX7_groupOf 2 (some .int))) { frames := 0, cells := 0, slots := 0, locals := 0 } (va_Pc [Value.ref (ad 161), vI p1] (WD D X ad σ sz)) (QI D X ad sz (fun r τ => τ = σ ∧ K r)) 0 0 (AA ad sz) := by
  refine a_start (cc := cX7_groupOf) (maxL := 2) (ret := (some .int)) (own := RX7) [Value.ref (ad 161), vI p1] (by decide) rfl rfl (Nat.le_of_ble_eq_true rfl) hinj hl0 ?_
  intro p e s m below meth c a hr hsz
  subst hsz
  have hts := a.1.2.2.2.2
  have tb : tyc 161 (11, 0) := ⟨by decide, rfl⟩
  have w1 := hts (Cond.fieldLink RX7 7 "SightLegendModel" "s" "[I") (List.mem_cons_of_mem _ (GL_5 _ (by decide +kernel)))
  have w2 : ∀ w ∈ u_ws RX7 TX7 29, w ∈ WW (.code yX7_groupOf cX7_groupOf 2 (some .int)) := fun w h => List.mem_cons_of_mem _ (inlX7 w h)
  have w3 : tyc 162 (0, 311) := ty_of (d := 1) (t1 := (0, 311)) (by decide +kernel) rfl tb
  unfold f_X7_groupOf at h
  refine a_sub (ls1 := [(0, Value.ref (ad 161)), (1, vI p1)]) [0, 1] rfl ?_
  refine a_aload_n (pc := 0) a 0 dX7_groupOf_0 rfl rfl ?_
  refine a_getR (pc := 1) a 0 0 rfl tb vc7 w2 w1 (by decide) (by decide) 1 (q := 162) rfl rfl dX7_groupOf_1 ?_
  refine a_bipush (pc := 4) a dX7_groupOf_4 (by decide) ?_
  refine a_bipush (pc := 6) a dX7_groupOf_6 (by decide) ?_
  refine a_iload_n (pc := 8) a 1 dX7_groupOf_8 rfl rfl ?_
  refine a_imul (pc := 9) a dX7_groupOf_9 ?_
  refine a_iadd (pc := 10) a dX7_groupOf_10 ?_
  refine a_iconst (pc := 11) a dX7_groupOf_11 ?_
  refine a_iadd (pc := 12) a dX7_groupOf_12 ?_
  refine a_iald (pc := 13) a w3 (by decide) h.1 dX7_groupOf_13 ?_
  replace h := h.2
  exact e_i (pc := 14) a hr dX7_groupOf_14 ⟨rfl, h⟩

set_option maxRecDepth 100000 in
set_option maxHeartbeats 4000000 in
theorem c_X7_classOf {l : Launch} {D : va_G} {X : XI} {ad : Nat → Nat} (hinj : adI ad) (hl0 : l.stackTraces = false) {p1 : Int}  {σ : St} {K : Int → Prop} (h : f_X7_classOf p1 σ K) (sz : Nat) : Met l yX7_classOf (WW (.code yX7_classOf cX7_classOf 5 (some .int))) { frames := 1, cells := 0, slots := 0, locals := 22 } (va_Pc [Value.ref (ad 161), vI p1] (WD D X ad σ sz)) (QI D X ad sz (fun r τ => τ = σ ∧ K r)) 0 0 (AA ad sz) := by
  refine a_start (cc := cX7_classOf) (maxL := 5) (ret := (some .int)) (own := RX7) [Value.ref (ad 161), vI p1] (by decide) rfl rfl (Nat.le_of_ble_eq_true rfl) hinj hl0 ?_
  intro p e s m below meth c a hr hsz
  subst hsz
  have hts := a.1.2.2.2.2
  have tb : tyc 161 (11, 0) := ⟨by decide, rfl⟩
  have w1 := hts (Cond.fieldLink RX7 7 "SightLegendModel" "s" "[I") (List.mem_cons_of_mem _ (GL_5 _ (by decide +kernel)))
  have w2 : ∀ w ∈ u_ws RX7 TX7 29, w ∈ WW (.code yX7_classOf cX7_classOf 5 (some .int)) := fun w h => List.mem_cons_of_mem _ (inlX7 w h)
  have w3 : tyc 162 (0, 311) := ty_of (d := 1) (t1 := (0, 311)) (by decide +kernel) rfl tb
  unfold f_X7_classOf at h
  refine a_sub (ls1 := [(0, Value.ref (ad 161)), (1, vI p1)]) [0, 1] rfl ?_
  refine a_bipush (pc := 0) a dX7_classOf_0 (by decide) ?_
  refine a_bipush (pc := 2) a dX7_classOf_2 (by decide) ?_
  refine a_aload_n (pc := 4) a 0 dX7_classOf_4 rfl rfl ?_
  refine a_iload_n (pc := 5) a 1 dX7_classOf_5 rfl rfl ?_
  refine a_iconst (pc := 6) a dX7_classOf_6 ?_
  refine a_cvi (pc := 7) a (As := [vI p1, vI 0]) (rest := [vI 8, vI 15]) tb vc7 (fun sz => c_X7_of hinj hl0  h sz) (cwV 2 hts (gl_V (GL_10 _ (by decide +kernel)) (GL_10 _ (by decide +kernel)) (GL_10 _ (by decide +kernel)) (GL_1 _ (by decide +kernel)) (GL_11 _ (by decide +kernel))) rfl rfl rfl (by decide +kernel) ⟨Nat.le_of_ble_eq_true rfl, Nat.le_of_ble_eq_true rfl⟩) rfl rfl (Nat.le_of_ble_eq_true rfl) ⟨Nat.le_of_ble_eq_true rfl, Nat.le_of_ble_eq_true rfl⟩ dX7_classOf_7 ?_
  rintro x1 s9 ⟨hs9, h9⟩
  subst s9
  replace h := h9
  clear h9
  refine a_imul (pc := 10) a dX7_classOf_10 ?_
  refine a_iadd (pc := 11) a dX7_classOf_11 ?_
  refine a_nm (fun x2 hx => ?_)
  replace h := h x2 hx
  clear hx
  refine a_istore_n (pc := 12) a (ls1 := [(2, vI x2), (0, Value.ref (ad 161)), (1, vI p1)]) dX7_classOf_12 rfl (by decide) rfl ?_
  refine a_iconst (pc := 13) a dX7_classOf_13 ?_
  refine a_istore_n (pc := 14) a (ls1 := [(3, vI 0), (2, vI x2), (0, Value.ref (ad 161)), (1, vI p1)]) dX7_classOf_14 rfl (by decide) rfl ?_
  refine a_iconst (pc := 15) a dX7_classOf_15 ?_
  refine a_istore (pc := 16) a (ls1 := [(4, vI 0), (3, vI 0), (2, vI x2), (0, Value.ref (ad 161)), (1, vI p1)]) dX7_classOf_16 (by decide) rfl ?_
  refine a_sub (ls1 := [(0, Value.ref (ad 161)), (1, vI p1), (2, vI x2), (3, vI 0), (4, vI 0)]) [3, 4, 2, 1, 0] rfl ?_
  refine g_wl2 (fun x3 x4 => [(0, Value.ref (ad 161)), (1, vI p1), (2, vI x2), (3, vI x3), (4, vI x4)]) h ?_
  clear h
  intro x3 x4 ag18 hag18 h
  refine a_iload (pc := 18) a 4 dX7_classOf_18 rfl ?_
  refine a_aload_n (pc := 20) a 0 dX7_classOf_20 rfl rfl ?_
  refine a_getR (pc := 21) a 0 0 rfl tb vc7 w2 w1 (by decide) (by decide) 1 (q := 162) rfl rfl dX7_classOf_21 ?_
  refine a_iload_n (pc := 24) a 2 dX7_classOf_24 rfl rfl ?_
  refine a_iconst (pc := 25) a dX7_classOf_25 ?_
  refine a_iadd (pc := 26) a dX7_classOf_26 ?_
  refine a_iald (pc := 27) a w3 (by decide) h.1 dX7_classOf_27 ?_
  replace h := h.2
  refine a_icmp_ge (pc := 28) a h.1 h.2.1 dX7_classOf_28 (tgt := 65) (by decide) (fun hq => ?_) (fun hq => ?_)
  · replace h := h.2.2.1 hq
    clear hq
    refine a_iload_n (pc := 65) a 3 dX7_classOf_65 rfl rfl ?_
    exact e_i (pc := 66) a hr dX7_classOf_66 ⟨rfl, h⟩
  · replace h := h.2.2.2 hq
    clear hq
    refine a_iload_n (pc := 31) a 3 dX7_classOf_31 rfl rfl ?_
    refine a_aload_n (pc := 32) a 0 dX7_classOf_32 rfl rfl ?_
    refine a_getR (pc := 33) a 0 0 rfl tb vc7 w2 w1 (by decide) (by decide) 1 (q := 162) rfl rfl dX7_classOf_33 ?_
    refine a_iload_n (pc := 36) a 2 dX7_classOf_36 rfl rfl ?_
    refine a_iconst (pc := 37) a dX7_classOf_37 ?_
    refine a_iadd (pc := 38) a dX7_classOf_38 ?_
    refine a_iload (pc := 39) a 4 dX7_classOf_39 rfl ?_
    refine a_iadd (pc := 41) a dX7_classOf_41 ?_
    refine a_iald (pc := 42) a w3 (by decide) h.1 dX7_classOf_42 ?_
    replace h := h.2
    refine a_aload_n (pc := 43) a 0 dX7_classOf_43 rfl rfl ?_
    refine a_iload_n (pc := 44) a 1 dX7_classOf_44 rfl rfl ?_
    refine a_iconst (pc := 45) a dX7_classOf_45 ?_
    refine a_cvi (pc := 46) a (As := [vI p1, vI 3]) (rest := [vI (σ 162 ((x2 + 3) + x4)), vI x3]) tb vc7 (fun sz => c_X7_of hinj hl0  h sz) (cwV 2 hts (gl_V (GL_10 _ (by decide +kernel)) (GL_10 _ (by decide +kernel)) (GL_10 _ (by decide +kernel)) (GL_1 _ (by decide +kernel)) (GL_11 _ (by decide +kernel))) rfl rfl rfl (by decide +kernel) ⟨Nat.le_of_ble_eq_true rfl, Nat.le_of_ble_eq_true rfl⟩) rfl rfl (Nat.le_of_ble_eq_true rfl) ⟨Nat.le_of_ble_eq_true rfl, Nat.le_of_ble_eq_true rfl⟩ dX7_classOf_46 ?_
    rintro x5 s9 ⟨hs9, h9⟩
    subst s9
    replace h := h9
    clear h9
    refine a_icmp_gt (pc := 49) a h.1 h.2.1 dX7_classOf_49 (tgt := 56) (by decide) (fun hq => ?_) (fun hq => ?_)
    · replace h := h.2.2.1 hq
      clear hq
      refine a_iconst (pc := 56) a dX7_classOf_56 ?_
      refine a_iadd (pc := 57) a dX7_classOf_57 ?_
      refine a_nm (fun x6 hx => ?_)
      replace h := h x6 hx
      clear hx
      refine a_istore_n (pc := 58) a (ls1 := [(3, vI x6), (0, Value.ref (ad 161)), (1, vI p1), (2, vI x2), (4, vI x4)]) dX7_classOf_58 rfl (by decide) rfl ?_
      refine a_iinc (pc := 59) a (ls1 := [(4, vI (x4 + 1)), (3, vI x6), (0, Value.ref (ad 161)), (1, vI p1), (2, vI x2)]) 4 dX7_classOf_59 rfl (by decide) rfl ?_
      refine a_goto (pc := 62) a dX7_classOf_62 (tgt := 18) (by decide) ?_
      refine a_sub (ls1 := [(0, Value.ref (ad 161)), (1, vI p1), (2, vI x2), (3, vI x6), (4, vI (x4 + 1))]) [2, 3, 4, 1, 0] rfl ?_
      exact hag18 x6 (x4 + 1) h
    · replace h := h.2.2.2 hq
      clear hq
      refine a_iconst (pc := 52) a dX7_classOf_52 ?_
      refine a_goto (pc := 53) a dX7_classOf_53 (tgt := 57) (by decide) ?_
      refine a_iadd (pc := 57) a dX7_classOf_57 ?_
      refine a_nm (fun x7 hx => ?_)
      replace h := h x7 hx
      clear hx
      refine a_istore_n (pc := 58) a (ls1 := [(3, vI x7), (0, Value.ref (ad 161)), (1, vI p1), (2, vI x2), (4, vI x4)]) dX7_classOf_58 rfl (by decide) rfl ?_
      refine a_iinc (pc := 59) a (ls1 := [(4, vI (x4 + 1)), (3, vI x7), (0, Value.ref (ad 161)), (1, vI p1), (2, vI x2)]) 4 dX7_classOf_59 rfl (by decide) rfl ?_
      refine a_goto (pc := 62) a dX7_classOf_62 (tgt := 18) (by decide) ?_
      refine a_sub (ls1 := [(0, Value.ref (ad 161)), (1, vI p1), (2, vI x2), (3, vI x7), (4, vI (x4 + 1))]) [2, 3, 4, 1, 0] rfl ?_
      exact hag18 x7 (x4 + 1) h

set_option maxRecDepth 100000 in
set_option maxHeartbeats 4000000 in
theorem c_X7_isWithin {l : Launch} {D : va_G} {X : XI} {ad : Nat → Nat} (hinj : adI ad) (hl0 : l.stackTraces = false) {p1 : Int}  {σ : St} {K : Int → Prop} (h : f_X7_isWithin p1 σ K) (sz : Nat) : Met l yX7_isWithin (WW (.code yX7_isWithin cX7_isWithin 2 (some .boolean))) { frames := 1, cells := 0, slots := 0, locals := 22 } (va_Pc [Value.ref (ad 161), vI p1] (WD D X ad σ sz)) (QI D X ad sz (fun r τ => τ = σ ∧ K r)) 0 0 (AA ad sz) := by
  refine a_start (cc := cX7_isWithin) (maxL := 2) (ret := (some .boolean)) (own := RX7) [Value.ref (ad 161), vI p1] (by decide) rfl rfl (Nat.le_of_ble_eq_true rfl) hinj hl0 ?_
  intro p e s m below meth c a hr hsz
  subst hsz
  have hts := a.1.2.2.2.2
  have tb : tyc 161 (11, 0) := ⟨by decide, rfl⟩
  have w1 := hts (Cond.fieldLink RX7 7 "SightLegendModel" "s" "[I") (List.mem_cons_of_mem _ (GL_5 _ (by decide +kernel)))
  have w2 : ∀ w ∈ u_ws RX7 TX7 29, w ∈ WW (.code yX7_isWithin cX7_isWithin 2 (some .boolean)) := fun w h => List.mem_cons_of_mem _ (inlX7 w h)
  have w3 : tyc 162 (0, 311) := ty_of (d := 1) (t1 := (0, 311)) (by decide +kernel) rfl tb
  unfold f_X7_isWithin at h
  refine a_sub (ls1 := [(0, Value.ref (ad 161)), (1, vI p1)]) [0, 1] rfl ?_
  refine a_aload_n (pc := 0) a 0 dX7_isWithin_0 rfl rfl ?_
  refine a_iload_n (pc := 1) a 1 dX7_isWithin_1 rfl rfl ?_
  refine a_iconst (pc := 2) a dX7_isWithin_2 ?_
  refine a_cvi (pc := 3) a (As := [vI p1, vI 1]) (rest := []) tb vc7 (fun sz => c_X7_of hinj hl0  h sz) (cwV 2 hts (gl_V (GL_10 _ (by decide +kernel)) (GL_10 _ (by decide +kernel)) (GL_10 _ (by decide +kernel)) (GL_1 _ (by decide +kernel)) (GL_11 _ (by decide +kernel))) rfl rfl rfl (by decide +kernel) ⟨Nat.le_of_ble_eq_true rfl, Nat.le_of_ble_eq_true rfl⟩) rfl rfl (Nat.le_of_ble_eq_true rfl) ⟨Nat.le_of_ble_eq_true rfl, Nat.le_of_ble_eq_true rfl⟩ dX7_isWithin_3 ?_
  rintro x1 s9 ⟨hs9, h9⟩
  subst s9
  replace h := h9
  clear h9
  refine a_aload_n (pc := 6) a 0 dX7_isWithin_6 rfl rfl ?_
  refine a_getR (pc := 7) a 0 0 rfl tb vc7 w2 w1 (by decide) (by decide) 1 (q := 162) rfl rfl dX7_isWithin_7 ?_
  refine a_iconst (pc := 10) a dX7_isWithin_10 ?_
  refine a_iald (pc := 11) a w3 (by decide) (by decide) dX7_isWithin_11 ?_
  refine a_isub (pc := 12) a dX7_isWithin_12 ?_
  refine a_iconst (pc := 13) a dX7_isWithin_13 ?_
  refine a_aload_n (pc := 14) a 0 dX7_isWithin_14 rfl rfl ?_
  refine a_getR (pc := 15) a 0 0 rfl tb vc7 w2 w1 (by decide) (by decide) 1 (q := 162) rfl rfl dX7_isWithin_15 ?_
  refine a_bipush (pc := 18) a dX7_isWithin_18 (by decide) ?_
  refine a_iald (pc := 20) a w3 (by decide) (by decide) dX7_isWithin_20 ?_
  refine a_iconst (pc := 21) a dX7_isWithin_21 ?_
  refine a_isub (pc := 22) a dX7_isWithin_22 ?_
  refine a_csi (pc := 23) a (As := [vI (x1 - (σ 162 4)), vI 0, vI ((σ 162 6) - 1)]) (rest := []) (fun sz => c_X7_in hinj hl0  h sz) (va_cwS 3 hts (gl_S (GL_8 _ (by decide +kernel)) (GL_8 _ (by decide +kernel)) (GL_1 _ (by decide +kernel)) (GL_8 _ (by decide +kernel))) rfl rfl rfl (by decide +kernel) ⟨Nat.le_of_ble_eq_true rfl, Nat.le_of_ble_eq_true rfl⟩) rfl rfl (Nat.le_of_ble_eq_true rfl) ⟨Nat.le_of_ble_eq_true rfl, Nat.le_of_ble_eq_true rfl⟩ dX7_isWithin_23 ?_
  rintro x2 s9 ⟨hs9, h9⟩
  subst s9
  replace h := h9
  clear h9
  refine a_if_eq (pc := 26) a h.1 dX7_isWithin_26 (tgt := 62) (by decide) (fun hq => ?_) (fun hq => ?_)
  · replace h := h.2.1 hq
    clear hq
    refine a_iconst (pc := 62) a dX7_isWithin_62 ?_
    exact e_z (pc := 63) a hr (by decide) dX7_isWithin_63 ⟨rfl, h⟩
  · replace h := h.2.2 hq
    clear hq
    refine a_aload_n (pc := 29) a 0 dX7_isWithin_29 rfl rfl ?_
    refine a_iload_n (pc := 30) a 1 dX7_isWithin_30 rfl rfl ?_
    refine a_iconst (pc := 31) a dX7_isWithin_31 ?_
    refine a_cvi (pc := 32) a (As := [vI p1, vI 2]) (rest := []) tb vc7 (fun sz => c_X7_of hinj hl0  h sz) (cwV 2 hts (gl_V (GL_10 _ (by decide +kernel)) (GL_10 _ (by decide +kernel)) (GL_10 _ (by decide +kernel)) (GL_1 _ (by decide +kernel)) (GL_11 _ (by decide +kernel))) rfl rfl rfl (by decide +kernel) ⟨Nat.le_of_ble_eq_true rfl, Nat.le_of_ble_eq_true rfl⟩) rfl rfl (Nat.le_of_ble_eq_true rfl) ⟨Nat.le_of_ble_eq_true rfl, Nat.le_of_ble_eq_true rfl⟩ dX7_isWithin_32 ?_
    rintro x3 s9 ⟨hs9, h9⟩
    subst s9
    replace h := h9
    clear h9
    refine a_aload_n (pc := 35) a 0 dX7_isWithin_35 rfl rfl ?_
    refine a_getR (pc := 36) a 0 0 rfl tb vc7 w2 w1 (by decide) (by decide) 1 (q := 162) rfl rfl dX7_isWithin_36 ?_
    refine a_iconst (pc := 39) a dX7_isWithin_39 ?_
    refine a_iald (pc := 40) a w3 (by decide) (by decide) dX7_isWithin_40 ?_
    refine a_isub (pc := 41) a dX7_isWithin_41 ?_
    refine a_iconst (pc := 42) a dX7_isWithin_42 ?_
    refine a_aload_n (pc := 43) a 0 dX7_isWithin_43 rfl rfl ?_
    refine a_getR (pc := 44) a 0 0 rfl tb vc7 w2 w1 (by decide) (by decide) 1 (q := 162) rfl rfl dX7_isWithin_44 ?_
    refine a_bipush (pc := 47) a dX7_isWithin_47 (by decide) ?_
    refine a_iald (pc := 49) a w3 (by decide) (by decide) dX7_isWithin_49 ?_
    refine a_iconst (pc := 50) a dX7_isWithin_50 ?_
    refine a_isub (pc := 51) a dX7_isWithin_51 ?_
    refine a_csi (pc := 52) a (As := [vI (x3 - (σ 162 5)), vI 0, vI ((σ 162 7) - 1)]) (rest := []) (fun sz => c_X7_in hinj hl0  h sz) (va_cwS 3 hts (gl_S (GL_8 _ (by decide +kernel)) (GL_8 _ (by decide +kernel)) (GL_1 _ (by decide +kernel)) (GL_8 _ (by decide +kernel))) rfl rfl rfl (by decide +kernel) ⟨Nat.le_of_ble_eq_true rfl, Nat.le_of_ble_eq_true rfl⟩) rfl rfl (Nat.le_of_ble_eq_true rfl) ⟨Nat.le_of_ble_eq_true rfl, Nat.le_of_ble_eq_true rfl⟩ dX7_isWithin_52 ?_
    rintro x4 s9 ⟨hs9, h9⟩
    subst s9
    replace h := h9
    clear h9
    refine a_if_eq (pc := 55) a h.1 dX7_isWithin_55 (tgt := 62) (by decide) (fun hq => ?_) (fun hq => ?_)
    · replace h := h.2.1 hq
      clear hq
      refine a_iconst (pc := 62) a dX7_isWithin_62 ?_
      exact e_z (pc := 63) a hr (by decide) dX7_isWithin_63 ⟨rfl, h⟩
    · replace h := h.2.2 hq
      clear hq
      refine a_iconst (pc := 58) a dX7_isWithin_58 ?_
      refine a_goto (pc := 59) a dX7_isWithin_59 (tgt := 63) (by decide) ?_
      exact e_z (pc := 63) a hr (by decide) dX7_isWithin_63 ⟨rfl, h⟩

set_option maxRecDepth 100000 in
set_option maxHeartbeats 4000000 in
theorem c_X7_isShown {l : Launch} {D : va_G} {X : XI} {ad : Nat → Nat} (hinj : adI ad) (hl0 : l.stackTraces = false) {p1 : Int}  {σ : St} {K : Int → Prop} (h : f_X7_isShown p1 σ K) (sz : Nat) : Met l yX7_isShown (WW (.code yX7_isShown cX7_isShown 2 (some .boolean))) { frames := 2, cells := 0, slots := 0, locals := 43 } (va_Pc [Value.ref (ad 161), vI p1] (WD D X ad σ sz)) (QI D X ad sz (fun r τ => τ = σ ∧ K r)) 0 0 (AA ad sz) := by
  refine a_start (cc := cX7_isShown) (maxL := 2) (ret := (some .boolean)) (own := RX7) [Value.ref (ad 161), vI p1] (by decide) rfl rfl (Nat.le_of_ble_eq_true rfl) hinj hl0 ?_
  intro p e s m below meth c a hr hsz
  subst hsz
  have hts := a.1.2.2.2.2
  have tb : tyc 161 (11, 0) := ⟨by decide, rfl⟩
  have w1 := hts (Cond.fieldLink RX7 7 "SightLegendModel" "s" "[I") (List.mem_cons_of_mem _ (GL_5 _ (by decide +kernel)))
  have w2 : ∀ w ∈ u_ws RX7 TX7 29, w ∈ WW (.code yX7_isShown cX7_isShown 2 (some .boolean)) := fun w h => List.mem_cons_of_mem _ (inlX7 w h)
  have w3 : tyc 162 (0, 311) := ty_of (d := 1) (t1 := (0, 311)) (by decide +kernel) rfl tb
  unfold f_X7_isShown at h
  refine a_sub (ls1 := [(0, Value.ref (ad 161)), (1, vI p1)]) [0, 1] rfl ?_
  refine a_aload_n (pc := 0) a 0 dX7_isShown_0 rfl rfl ?_
  refine a_iload_n (pc := 1) a 1 dX7_isShown_1 rfl rfl ?_
  refine a_iconst (pc := 2) a dX7_isShown_2 ?_
  refine a_cvi (pc := 3) a (As := [vI p1, vI 4]) (rest := []) tb vc7 (fun sz => c_X7_of hinj hl0  h sz) (cwV 2 hts (gl_V (GL_10 _ (by decide +kernel)) (GL_10 _ (by decide +kernel)) (GL_10 _ (by decide +kernel)) (GL_1 _ (by decide +kernel)) (GL_11 _ (by decide +kernel))) rfl rfl rfl (by decide +kernel) ⟨Nat.le_of_ble_eq_true rfl, Nat.le_of_ble_eq_true rfl⟩) rfl rfl (Nat.le_of_ble_eq_true rfl) ⟨Nat.le_of_ble_eq_true rfl, Nat.le_of_ble_eq_true rfl⟩ dX7_isShown_3 ?_
  rintro x1 s9 ⟨hs9, h9⟩
  subst s9
  replace h := h9
  clear h9
  refine a_aload_n (pc := 6) a 0 dX7_isShown_6 rfl rfl ?_
  refine a_getR (pc := 7) a 0 0 rfl tb vc7 w2 w1 (by decide) (by decide) 1 (q := 162) rfl rfl dX7_isShown_7 ?_
  refine a_bipush (pc := 10) a dX7_isShown_10 (by decide) ?_
  refine a_iald (pc := 12) a w3 (by decide) (by decide) dX7_isShown_12 ?_
  refine a_icmp_gt (pc := 13) a h.1 h.2.1 dX7_isShown_13 (tgt := 28) (by decide) (fun hq => ?_) (fun hq => ?_)
  · replace h := h.2.2.1 hq
    clear hq
    refine a_iconst (pc := 28) a dX7_isShown_28 ?_
    exact e_z (pc := 29) a hr (by decide) dX7_isShown_29 ⟨rfl, h⟩
  · replace h := h.2.2.2 hq
    clear hq
    refine a_aload_n (pc := 16) a 0 dX7_isShown_16 rfl rfl ?_
    refine a_iload_n (pc := 17) a 1 dX7_isShown_17 rfl rfl ?_
    refine a_cvi (pc := 18) a (As := [vI p1]) (rest := []) tb vc7 (fun sz => c_X7_isWithin hinj hl0  h sz) (cwV 1 hts (gl_V (GL_12 _ (by decide +kernel)) (GL_12 _ (by decide +kernel)) (GL_12 _ (by decide +kernel)) (GL_1 _ (by decide +kernel)) (GL_12 _ (by decide +kernel))) rfl rfl rfl (by decide +kernel) ⟨Nat.le_of_ble_eq_true rfl, Nat.le_of_ble_eq_true rfl⟩) rfl rfl (Nat.le_of_ble_eq_true rfl) ⟨Nat.le_of_ble_eq_true rfl, Nat.le_of_ble_eq_true rfl⟩ dX7_isShown_18 ?_
    rintro x2 s9 ⟨hs9, h9⟩
    subst s9
    replace h := h9
    clear h9
    refine a_if_eq (pc := 21) a h.1 dX7_isShown_21 (tgt := 28) (by decide) (fun hq => ?_) (fun hq => ?_)
    · replace h := h.2.1 hq
      clear hq
      refine a_iconst (pc := 28) a dX7_isShown_28 ?_
      exact e_z (pc := 29) a hr (by decide) dX7_isShown_29 ⟨rfl, h⟩
    · replace h := h.2.2 hq
      clear hq
      refine a_iconst (pc := 24) a dX7_isShown_24 ?_
      refine a_goto (pc := 25) a dX7_isShown_25 (tgt := 29) (by decide) ?_
      exact e_z (pc := 29) a hr (by decide) dX7_isShown_29 ⟨rfl, h⟩

set_option maxRecDepth 100000 in
set_option maxHeartbeats 4000000 in
theorem c_X7_shownMany {l : Launch} {D : va_G} {X : XI} {ad : Nat → Nat} (hinj : adI ad) (hl0 : l.stackTraces = false)   {σ : St} {K : Int → Prop} (h : f_X7_shownMany σ K) (sz : Nat) : Met l yX7_shownMany (WW (.code yX7_shownMany cX7_shownMany 3 (some .int))) { frames := 3, cells := 0, slots := 0, locals := 64 } (va_Pc [Value.ref (ad 161)] (WD D X ad σ sz)) (QI D X ad sz (fun r τ => τ = σ ∧ K r)) 0 0 (AA ad sz) := by
  refine a_start (cc := cX7_shownMany) (maxL := 3) (ret := (some .int)) (own := RX7) [Value.ref (ad 161)] (by decide) rfl rfl (Nat.le_of_ble_eq_true rfl) hinj hl0 ?_
  intro p e s m below meth c a hr hsz
  subst hsz
  have hts := a.1.2.2.2.2
  have tb : tyc 161 (11, 0) := ⟨by decide, rfl⟩
  have w1 := hts (Cond.fieldLink RX7 7 "SightLegendModel" "s" "[I") (List.mem_cons_of_mem _ (GL_5 _ (by decide +kernel)))
  have w2 : ∀ w ∈ u_ws RX7 TX7 29, w ∈ WW (.code yX7_shownMany cX7_shownMany 3 (some .int)) := fun w h => List.mem_cons_of_mem _ (inlX7 w h)
  have w3 : tyc 162 (0, 311) := ty_of (d := 1) (t1 := (0, 311)) (by decide +kernel) rfl tb
  unfold f_X7_shownMany at h
  refine a_sub (ls1 := [(0, Value.ref (ad 161))]) [0] rfl ?_
  refine a_iconst (pc := 0) a dX7_shownMany_0 ?_
  refine a_istore_n (pc := 1) a (ls1 := [(1, vI 0), (0, Value.ref (ad 161))]) dX7_shownMany_1 rfl (by decide) rfl ?_
  refine a_iconst (pc := 2) a dX7_shownMany_2 ?_
  refine a_istore_n (pc := 3) a (ls1 := [(2, vI 0), (1, vI 0), (0, Value.ref (ad 161))]) dX7_shownMany_3 rfl (by decide) rfl ?_
  refine a_sub (ls1 := [(0, Value.ref (ad 161)), (1, vI 0), (2, vI 0)]) [2, 1, 0] rfl ?_
  refine g_wl2 (fun x1 x2 => [(0, Value.ref (ad 161)), (1, vI x1), (2, vI x2)]) h ?_
  clear h
  intro x1 x2 ag4 hag4 h
  refine a_iload_n (pc := 4) a 2 dX7_shownMany_4 rfl rfl ?_
  refine a_aload_n (pc := 5) a 0 dX7_shownMany_5 rfl rfl ?_
  refine a_getR (pc := 6) a 0 0 rfl tb vc7 w2 w1 (by decide) (by decide) 1 (q := 162) rfl rfl dX7_shownMany_6 ?_
  refine a_bipush (pc := 9) a dX7_shownMany_9 (by decide) ?_
  refine a_iald (pc := 11) a w3 (by decide) (by decide) dX7_shownMany_11 ?_
  refine a_icmp_ge (pc := 12) a h.1 h.2.1 dX7_shownMany_12 (tgt := 37) (by decide) (fun hq => ?_) (fun hq => ?_)
  · replace h := h.2.2.1 hq
    clear hq
    refine a_iload_n (pc := 37) a 1 dX7_shownMany_37 rfl rfl ?_
    exact e_i (pc := 38) a hr dX7_shownMany_38 ⟨rfl, h⟩
  · replace h := h.2.2.2 hq
    clear hq
    refine a_iload_n (pc := 15) a 1 dX7_shownMany_15 rfl rfl ?_
    refine a_aload_n (pc := 16) a 0 dX7_shownMany_16 rfl rfl ?_
    refine a_iload_n (pc := 17) a 2 dX7_shownMany_17 rfl rfl ?_
    refine a_cvi (pc := 18) a (As := [vI x2]) (rest := [vI x1]) tb vc7 (fun sz => c_X7_isShown hinj hl0  h sz) (cwV 1 hts (gl_V (GL_12 _ (by decide +kernel)) (GL_12 _ (by decide +kernel)) (GL_12 _ (by decide +kernel)) (GL_1 _ (by decide +kernel)) (GL_12 _ (by decide +kernel))) rfl rfl rfl (by decide +kernel) ⟨Nat.le_of_ble_eq_true rfl, Nat.le_of_ble_eq_true rfl⟩) rfl rfl (Nat.le_of_ble_eq_true rfl) ⟨Nat.le_of_ble_eq_true rfl, Nat.le_of_ble_eq_true rfl⟩ dX7_shownMany_18 ?_
    rintro x3 s9 ⟨hs9, h9⟩
    subst s9
    replace h := h9
    clear h9
    refine a_if_eq (pc := 21) a h.1 dX7_shownMany_21 (tgt := 28) (by decide) (fun hq => ?_) (fun hq => ?_)
    · replace h := h.2.1 hq
      clear hq
      refine a_iconst (pc := 28) a dX7_shownMany_28 ?_
      refine a_iadd (pc := 29) a dX7_shownMany_29 ?_
      refine a_nm (fun x4 hx => ?_)
      replace h := h x4 hx
      clear hx
      refine a_istore_n (pc := 30) a (ls1 := [(1, vI x4), (0, Value.ref (ad 161)), (2, vI x2)]) dX7_shownMany_30 rfl (by decide) rfl ?_
      refine a_iinc (pc := 31) a (ls1 := [(2, vI (x2 + 1)), (1, vI x4), (0, Value.ref (ad 161))]) 2 dX7_shownMany_31 rfl (by decide) rfl ?_
      refine a_goto (pc := 34) a dX7_shownMany_34 (tgt := 4) (by decide) ?_
      refine a_sub (ls1 := [(0, Value.ref (ad 161)), (1, vI x4), (2, vI (x2 + 1))]) [2, 1, 0] rfl ?_
      exact hag4 x4 (x2 + 1) h
    · replace h := h.2.2 hq
      clear hq
      refine a_iconst (pc := 24) a dX7_shownMany_24 ?_
      refine a_goto (pc := 25) a dX7_shownMany_25 (tgt := 29) (by decide) ?_
      refine a_iadd (pc := 29) a dX7_shownMany_29 ?_
      refine a_nm (fun x5 hx => ?_)
      replace h := h x5 hx
      clear hx
      refine a_istore_n (pc := 30) a (ls1 := [(1, vI x5), (0, Value.ref (ad 161)), (2, vI x2)]) dX7_shownMany_30 rfl (by decide) rfl ?_
      refine a_iinc (pc := 31) a (ls1 := [(2, vI (x2 + 1)), (1, vI x5), (0, Value.ref (ad 161))]) 2 dX7_shownMany_31 rfl (by decide) rfl ?_
      refine a_goto (pc := 34) a dX7_shownMany_34 (tgt := 4) (by decide) ?_
      refine a_sub (ls1 := [(0, Value.ref (ad 161)), (1, vI x5), (2, vI (x2 + 1))]) [2, 1, 0] rfl ?_
      exact hag4 x5 (x2 + 1) h

set_option maxRecDepth 100000 in
set_option maxHeartbeats 4000000 in
theorem c_X7_isInSight {l : Launch} {D : va_G} {X : XI} {ad : Nat → Nat} (hinj : adI ad) (hl0 : l.stackTraces = false) {p1 : Int}  {σ : St} {K : Int → Prop} (h : f_X7_isInSight p1 σ K) (sz : Nat) : Met l yX7_isInSight (WW (.code yX7_isInSight cX7_isInSight 4 (some .boolean))) { frames := 1, cells := 0, slots := 0, locals := 22 } (va_Pc [Value.ref (ad 161), vI p1] (WD D X ad σ sz)) (QI D X ad sz (fun r τ => τ = σ ∧ K r)) 0 0 (AA ad sz) := by
  refine a_start (cc := cX7_isInSight) (maxL := 4) (ret := (some .boolean)) (own := RX7) [Value.ref (ad 161), vI p1] (by decide) rfl rfl (Nat.le_of_ble_eq_true rfl) hinj hl0 ?_
  intro p e s m below meth c a hr hsz
  subst hsz
  have hts := a.1.2.2.2.2
  have tb : tyc 161 (11, 0) := ⟨by decide, rfl⟩
  have w1 := hts (Cond.fieldLink RX7 7 "SightLegendModel" "s" "[I") (List.mem_cons_of_mem _ (GL_5 _ (by decide +kernel)))
  have w2 : ∀ w ∈ u_ws RX7 TX7 29, w ∈ WW (.code yX7_isInSight cX7_isInSight 4 (some .boolean)) := fun w h => List.mem_cons_of_mem _ (inlX7 w h)
  have w3 : tyc 162 (0, 311) := ty_of (d := 1) (t1 := (0, 311)) (by decide +kernel) rfl tb
  have w4 := hts (Cond.fieldLink RX7 25 "SightLegendModel" "sight" "[Z") (List.mem_cons_of_mem _ (GL_5 _ (by decide +kernel)))
  have w5 : tyc 167 (1, 40) := ty_of (d := 6) (t1 := (1, 40)) (by decide +kernel) rfl tb
  unfold f_X7_isInSight at h
  refine a_sub (ls1 := [(0, Value.ref (ad 161)), (1, vI p1)]) [0, 1] rfl ?_
  refine a_iconst (pc := 0) a dX7_isInSight_0 ?_
  refine a_istore_n (pc := 1) a (ls1 := [(2, vI 0), (0, Value.ref (ad 161)), (1, vI p1)]) dX7_isInSight_1 rfl (by decide) rfl ?_
  refine a_iconst (pc := 2) a dX7_isInSight_2 ?_
  refine a_istore_n (pc := 3) a (ls1 := [(3, vI 0), (2, vI 0), (0, Value.ref (ad 161)), (1, vI p1)]) dX7_isInSight_3 rfl (by decide) rfl ?_
  refine a_sub (ls1 := [(0, Value.ref (ad 161)), (1, vI p1), (2, vI 0), (3, vI 0)]) [2, 3, 1, 0] rfl ?_
  refine g_wl2 (fun x1 x2 => [(0, Value.ref (ad 161)), (1, vI p1), (2, vI x1), (3, vI x2)]) h ?_
  clear h
  intro x1 x2 ag4 hag4 h
  refine a_iload_n (pc := 4) a 3 dX7_isInSight_4 rfl rfl ?_
  refine a_aload_n (pc := 5) a 0 dX7_isInSight_5 rfl rfl ?_
  refine a_getR (pc := 6) a 0 0 rfl tb vc7 w2 w1 (by decide) (by decide) 1 (q := 162) rfl rfl dX7_isInSight_6 ?_
  refine a_bipush (pc := 9) a dX7_isInSight_9 (by decide) ?_
  refine a_iald (pc := 11) a w3 (by decide) (by decide) dX7_isInSight_11 ?_
  refine a_icmp_ge (pc := 12) a h.1 h.2.1 dX7_isInSight_12 (tgt := 50) (by decide) (fun hq => ?_) (fun hq => ?_)
  · replace h := h.2.2.1 hq
    clear hq
    refine a_iload_n (pc := 50) a 2 dX7_isInSight_50 rfl rfl ?_
    exact e_z (pc := 51) a hr h.1 dX7_isInSight_51 ⟨rfl, h.2⟩
  · replace h := h.2.2.2 hq
    clear hq
    refine a_iload_n (pc := 15) a 2 dX7_isInSight_15 rfl rfl ?_
    refine a_if_ne (pc := 16) a h.1 dX7_isInSight_16 (tgt := 38) (by decide) (fun hq => ?_) (fun hq => ?_)
    · replace h := h.2.1 hq
      clear hq
      refine a_iconst (pc := 38) a dX7_isInSight_38 ?_
      refine a_goto (pc := 39) a dX7_isInSight_39 (tgt := 43) (by decide) ?_
      refine a_istore_n (pc := 43) a (ls1 := [(2, vI 1), (0, Value.ref (ad 161)), (1, vI p1), (3, vI x2)]) dX7_isInSight_43 rfl (by decide) rfl ?_
      refine a_iinc (pc := 44) a (ls1 := [(3, vI (x2 + 1)), (2, vI 1), (0, Value.ref (ad 161)), (1, vI p1)]) 3 dX7_isInSight_44 rfl (by decide) rfl ?_
      refine a_goto (pc := 47) a dX7_isInSight_47 (tgt := 4) (by decide) ?_
      refine a_sub (ls1 := [(0, Value.ref (ad 161)), (1, vI p1), (2, vI 1), (3, vI (x2 + 1))]) [2, 3, 1, 0] rfl ?_
      exact hag4 1 (x2 + 1) h
    · replace h := h.2.2 hq
      clear hq
      refine a_aload_n (pc := 19) a 0 dX7_isInSight_19 rfl rfl ?_
      refine a_getR (pc := 20) a 8 8 rfl tb vc7 w2 w4 (by decide) (by decide) 6 (q := 167) rfl rfl dX7_isInSight_20 ?_
      refine a_iload_n (pc := 23) a 3 dX7_isInSight_23 rfl rfl ?_
      refine a_zald (pc := 24) a w5 (by decide) h.1 dX7_isInSight_24 ?_
      replace h := h.2
      refine a_if_eq (pc := 25) a h.1 dX7_isInSight_25 (tgt := 42) (by decide) (fun hq => ?_) (fun hq => ?_)
      · replace h := h.2.1 hq
        clear hq
        refine a_iconst (pc := 42) a dX7_isInSight_42 ?_
        refine a_istore_n (pc := 43) a (ls1 := [(2, vI 0), (0, Value.ref (ad 161)), (1, vI p1), (3, vI x2)]) dX7_isInSight_43 rfl (by decide) rfl ?_
        refine a_iinc (pc := 44) a (ls1 := [(3, vI (x2 + 1)), (2, vI 0), (0, Value.ref (ad 161)), (1, vI p1)]) 3 dX7_isInSight_44 rfl (by decide) rfl ?_
        refine a_goto (pc := 47) a dX7_isInSight_47 (tgt := 4) (by decide) ?_
        refine a_sub (ls1 := [(0, Value.ref (ad 161)), (1, vI p1), (2, vI 0), (3, vI (x2 + 1))]) [2, 3, 1, 0] rfl ?_
        exact hag4 0 (x2 + 1) h
      · replace h := h.2.2 hq
        clear hq
        refine a_aload_n (pc := 28) a 0 dX7_isInSight_28 rfl rfl ?_
        refine a_iload_n (pc := 29) a 3 dX7_isInSight_29 rfl rfl ?_
        refine a_iconst (pc := 30) a dX7_isInSight_30 ?_
        refine a_cvi (pc := 31) a (As := [vI x2, vI 0]) (rest := []) tb vc7 (fun sz => c_X7_of hinj hl0  h sz) (cwV 2 hts (gl_V (GL_10 _ (by decide +kernel)) (GL_10 _ (by decide +kernel)) (GL_10 _ (by decide +kernel)) (GL_1 _ (by decide +kernel)) (GL_11 _ (by decide +kernel))) rfl rfl rfl (by decide +kernel) ⟨Nat.le_of_ble_eq_true rfl, Nat.le_of_ble_eq_true rfl⟩) rfl rfl (Nat.le_of_ble_eq_true rfl) ⟨Nat.le_of_ble_eq_true rfl, Nat.le_of_ble_eq_true rfl⟩ dX7_isInSight_31 ?_
        rintro x3 s9 ⟨hs9, h9⟩
        subst s9
        replace h := h9
        clear h9
        refine a_iload_n (pc := 34) a 1 dX7_isInSight_34 rfl rfl ?_
        refine a_icmp_ne (pc := 35) a h.1 h.2.1 dX7_isInSight_35 (tgt := 42) (by decide) (fun hq => ?_) (fun hq => ?_)
        · replace h := h.2.2.1 hq
          clear hq
          refine a_iconst (pc := 42) a dX7_isInSight_42 ?_
          refine a_istore_n (pc := 43) a (ls1 := [(2, vI 0), (0, Value.ref (ad 161)), (1, vI p1), (3, vI x2)]) dX7_isInSight_43 rfl (by decide) rfl ?_
          refine a_iinc (pc := 44) a (ls1 := [(3, vI (x2 + 1)), (2, vI 0), (0, Value.ref (ad 161)), (1, vI p1)]) 3 dX7_isInSight_44 rfl (by decide) rfl ?_
          refine a_goto (pc := 47) a dX7_isInSight_47 (tgt := 4) (by decide) ?_
          refine a_sub (ls1 := [(0, Value.ref (ad 161)), (1, vI p1), (2, vI 0), (3, vI (x2 + 1))]) [2, 3, 1, 0] rfl ?_
          exact hag4 0 (x2 + 1) h
        · replace h := h.2.2.2 hq
          clear hq
          refine a_iconst (pc := 38) a dX7_isInSight_38 ?_
          refine a_goto (pc := 39) a dX7_isInSight_39 (tgt := 43) (by decide) ?_
          refine a_istore_n (pc := 43) a (ls1 := [(2, vI 1), (0, Value.ref (ad 161)), (1, vI p1), (3, vI x2)]) dX7_isInSight_43 rfl (by decide) rfl ?_
          refine a_iinc (pc := 44) a (ls1 := [(3, vI (x2 + 1)), (2, vI 1), (0, Value.ref (ad 161)), (1, vI p1)]) 3 dX7_isInSight_44 rfl (by decide) rfl ?_
          refine a_goto (pc := 47) a dX7_isInSight_47 (tgt := 4) (by decide) ?_
          refine a_sub (ls1 := [(0, Value.ref (ad 161)), (1, vI p1), (2, vI 1), (3, vI (x2 + 1))]) [2, 3, 1, 0] rfl ?_
          exact hag4 1 (x2 + 1) h

set_option maxRecDepth 100000 in
set_option maxHeartbeats 4000000 in
theorem c_X7_adds {l : Launch} {D : va_G} {X : XI} {ad : Nat → Nat} (hinj : adI ad) (hl0 : l.stackTraces = false) {p1 : Int} {p2 : Int} {p3 : Int} {p4 : Int} {p5 : Int}  {σ : St} {K : St → Prop} (h : f_X7_adds p1 p2 p3 p4 p5 σ K) (sz : Nat) : Met l yX7_adds (WW (.code yX7_adds cX7_adds 6 none)) { frames := 0, cells := 0, slots := 0, locals := 0 } (va_Pc [Value.ref (ad 161), vI p1, vI p2, vI p3, vI p4, vI p5] (WD D X ad σ sz)) (QV D X ad sz K) 0 0 (AA ad sz) := by
  refine a_start (cc := cX7_adds) (maxL := 6) (ret := none) (own := RX7) [Value.ref (ad 161), vI p1, vI p2, vI p3, vI p4, vI p5] (by decide) rfl rfl (Nat.le_of_ble_eq_true rfl) hinj hl0 ?_
  intro p e s m below meth c a hr hsz
  subst hsz
  have hts := a.1.2.2.2.2
  have tb : tyc 161 (11, 0) := ⟨by decide, rfl⟩
  have w1 := hts (Cond.fieldLink RX7 29 "SightLegendModel" "line" "[I") (List.mem_cons_of_mem _ (GL_5 _ (by decide +kernel)))
  have w2 : ∀ w ∈ u_ws RX7 TX7 29, w ∈ WW (.code yX7_adds cX7_adds 6 none) := fun w h => List.mem_cons_of_mem _ (inlX7 w h)
  have w3 : tyc 168 (0, 400) := ty_of (d := 7) (t1 := (0, 400)) (by decide +kernel) rfl tb
  have w4 := hts (Cond.fieldLink RX7 83 "SightLegendModel" "lines" "I") (List.mem_cons_of_mem _ (GL_22 _ (by decide +kernel)))
  unfold f_X7_adds at h
  refine a_sub (ls1 := [(0, Value.ref (ad 161)), (1, vI p1), (2, vI p2), (3, vI p3), (4, vI p4), (5, vI p5)]) [0, 1, 2, 3, 4, 5] rfl ?_
  refine a_aload_n (pc := 0) a 0 dX7_adds_0 rfl rfl ?_
  refine a_getR (pc := 1) a 9 9 rfl tb vc7 w2 w1 (by decide) (by decide) 7 (q := 168) rfl rfl dX7_adds_1 ?_
  refine a_iconst (pc := 4) a dX7_adds_4 ?_
  refine a_aload_n (pc := 5) a 0 dX7_adds_5 rfl rfl ?_
  refine a_getI (pc := 6) a 13 13 rfl tb vc7 w2 w4 (by decide) (by decide) rfl dX7_adds_6 ?_
  refine a_imul (pc := 9) a dX7_adds_9 ?_
  refine a_iload_n (pc := 10) a 1 dX7_adds_10 rfl rfl ?_
  refine a_iast (pc := 11) a w3 (by decide) h.1 dX7_adds_11 ?_
  replace h := h.2
  refine a_nmS (fun s1 hx => ?_)
  replace h := h s1 hx
  clear hx
  refine a_aload_n (pc := 12) a 0 dX7_adds_12 rfl rfl ?_
  refine a_getR (pc := 13) a 9 9 rfl tb vc7 w2 w1 (by decide) (by decide) 7 (q := 168) rfl rfl dX7_adds_13 ?_
  refine a_iconst (pc := 16) a dX7_adds_16 ?_
  refine a_aload_n (pc := 17) a 0 dX7_adds_17 rfl rfl ?_
  refine a_getI (pc := 18) a 13 13 rfl tb vc7 w2 w4 (by decide) (by decide) rfl dX7_adds_18 ?_
  refine a_imul (pc := 21) a dX7_adds_21 ?_
  refine a_iconst (pc := 22) a dX7_adds_22 ?_
  refine a_iadd (pc := 23) a dX7_adds_23 ?_
  refine a_iload_n (pc := 24) a 2 dX7_adds_24 rfl rfl ?_
  refine a_iast (pc := 25) a w3 (by decide) h.1 dX7_adds_25 ?_
  replace h := h.2
  refine a_nmS (fun s2 hx => ?_)
  replace h := h s2 hx
  clear hx
  refine a_aload_n (pc := 26) a 0 dX7_adds_26 rfl rfl ?_
  refine a_getR (pc := 27) a 9 9 rfl tb vc7 w2 w1 (by decide) (by decide) 7 (q := 168) rfl rfl dX7_adds_27 ?_
  refine a_iconst (pc := 30) a dX7_adds_30 ?_
  refine a_aload_n (pc := 31) a 0 dX7_adds_31 rfl rfl ?_
  refine a_getI (pc := 32) a 13 13 rfl tb vc7 w2 w4 (by decide) (by decide) rfl dX7_adds_32 ?_
  refine a_imul (pc := 35) a dX7_adds_35 ?_
  refine a_iconst (pc := 36) a dX7_adds_36 ?_
  refine a_iadd (pc := 37) a dX7_adds_37 ?_
  refine a_iload_n (pc := 38) a 3 dX7_adds_38 rfl rfl ?_
  refine a_iast (pc := 39) a w3 (by decide) h.1 dX7_adds_39 ?_
  replace h := h.2
  refine a_nmS (fun s3 hx => ?_)
  replace h := h s3 hx
  clear hx
  refine a_aload_n (pc := 40) a 0 dX7_adds_40 rfl rfl ?_
  refine a_getR (pc := 41) a 9 9 rfl tb vc7 w2 w1 (by decide) (by decide) 7 (q := 168) rfl rfl dX7_adds_41 ?_
  refine a_iconst (pc := 44) a dX7_adds_44 ?_
  refine a_aload_n (pc := 45) a 0 dX7_adds_45 rfl rfl ?_
  refine a_getI (pc := 46) a 13 13 rfl tb vc7 w2 w4 (by decide) (by decide) rfl dX7_adds_46 ?_
  refine a_imul (pc := 49) a dX7_adds_49 ?_
  refine a_iconst (pc := 50) a dX7_adds_50 ?_
  refine a_iadd (pc := 51) a dX7_adds_51 ?_
  refine a_iload (pc := 52) a 4 dX7_adds_52 rfl ?_
  refine a_iast (pc := 54) a w3 (by decide) h.1 dX7_adds_54 ?_
  replace h := h.2
  refine a_nmS (fun s4 hx => ?_)
  replace h := h s4 hx
  clear hx
  refine a_aload_n (pc := 55) a 0 dX7_adds_55 rfl rfl ?_
  refine a_getR (pc := 56) a 9 9 rfl tb vc7 w2 w1 (by decide) (by decide) 7 (q := 168) rfl rfl dX7_adds_56 ?_
  refine a_iconst (pc := 59) a dX7_adds_59 ?_
  refine a_aload_n (pc := 60) a 0 dX7_adds_60 rfl rfl ?_
  refine a_getI (pc := 61) a 13 13 rfl tb vc7 w2 w4 (by decide) (by decide) rfl dX7_adds_61 ?_
  refine a_imul (pc := 64) a dX7_adds_64 ?_
  refine a_iconst (pc := 65) a dX7_adds_65 ?_
  refine a_iadd (pc := 66) a dX7_adds_66 ?_
  refine a_iload (pc := 67) a 5 dX7_adds_67 rfl ?_
  refine a_iast (pc := 69) a w3 (by decide) h.1 dX7_adds_69 ?_
  replace h := h.2
  refine a_nmS (fun s5 hx => ?_)
  replace h := h s5 hx
  clear hx
  refine a_aload_n (pc := 70) a 0 dX7_adds_70 rfl rfl ?_
  refine a_dup (pc := 71) a rfl dX7_adds_71 ?_
  refine a_getI (pc := 72) a 13 13 rfl tb vc7 w2 w4 (by decide) (by decide) rfl dX7_adds_72 ?_
  refine a_iconst (pc := 75) a dX7_adds_75 ?_
  refine a_iadd (pc := 76) a dX7_adds_76 ?_
  refine a_putI (pc := 77) a 13 13 rfl tb vc7 w2 w4 (by decide) (by decide) tyX7 tyX7_ok nmX7 rfl rfl (by decide +kernel) dX7_adds_77 ?_
  refine a_nmS (fun s6 hx => ?_)
  replace h := h s6 hx
  clear hx
  exact e_v (pc := 80) a hr dX7_adds_80 h

set_option maxRecDepth 100000 in
set_option maxHeartbeats 4000000 in
theorem c_X7_signsOf {l : Launch} {D : va_G} {X : XI} {ad : Nat → Nat} (hinj : adI ad) (hl0 : l.stackTraces = false) {p1 : Int} {p2 : Int} {p3 : Int}  {σ : St} {K : Int → Prop} (h : f_X7_signsOf p1 p2 p3 σ K) (sz : Nat) : Met l yX7_signsOf (WW (.code yX7_signsOf cX7_signsOf 6 (some .int))) { frames := 2, cells := 0, slots := 0, locals := 46 } (va_Pc [Value.ref (ad 161), vI p1, vI p2, vI p3] (WD D X ad σ sz)) (QI D X ad sz (fun r τ => τ = σ ∧ K r)) 0 0 (AA ad sz) := by
  refine a_start (cc := cX7_signsOf) (maxL := 6) (ret := (some .int)) (own := RX7) [Value.ref (ad 161), vI p1, vI p2, vI p3] (by decide) rfl rfl (Nat.le_of_ble_eq_true rfl) hinj hl0 ?_
  intro p e s m below meth c a hr hsz
  subst hsz
  have hts := a.1.2.2.2.2
  have tb : tyc 161 (11, 0) := ⟨by decide, rfl⟩
  have w1 := hts (Cond.fieldLink RX7 7 "SightLegendModel" "s" "[I") (List.mem_cons_of_mem _ (GL_5 _ (by decide +kernel)))
  have w2 : ∀ w ∈ u_ws RX7 TX7 29, w ∈ WW (.code yX7_signsOf cX7_signsOf 6 (some .int)) := fun w h => List.mem_cons_of_mem _ (inlX7 w h)
  have w3 : tyc 162 (0, 311) := ty_of (d := 1) (t1 := (0, 311)) (by decide +kernel) rfl tb
  have w4 := hts (Cond.fieldLink RX7 25 "SightLegendModel" "sight" "[Z") (List.mem_cons_of_mem _ (GL_5 _ (by decide +kernel)))
  have w5 : tyc 167 (1, 40) := ty_of (d := 6) (t1 := (1, 40)) (by decide +kernel) rfl tb
  unfold f_X7_signsOf at h
  refine a_sub (ls1 := [(0, Value.ref (ad 161)), (1, vI p1), (2, vI p2), (3, vI p3)]) [0, 1, 2, 3] rfl ?_
  refine a_iconst (pc := 0) a dX7_signsOf_0 ?_
  refine a_istore (pc := 1) a (ls1 := [(4, vI 0), (0, Value.ref (ad 161)), (1, vI p1), (2, vI p2), (3, vI p3)]) dX7_signsOf_1 (by decide) rfl ?_
  refine a_iconst (pc := 3) a dX7_signsOf_3 ?_
  refine a_istore (pc := 4) a (ls1 := [(5, vI 0), (4, vI 0), (0, Value.ref (ad 161)), (1, vI p1), (2, vI p2), (3, vI p3)]) dX7_signsOf_4 (by decide) rfl ?_
  refine a_sub (ls1 := [(0, Value.ref (ad 161)), (1, vI p1), (2, vI p2), (3, vI p3), (4, vI 0), (5, vI 0)]) [2, 3, 4, 5, 1, 0] rfl ?_
  refine g_wl2 (fun x1 x2 => [(0, Value.ref (ad 161)), (1, vI p1), (2, vI p2), (3, vI p3), (4, vI x1), (5, vI x2)]) h ?_
  clear h
  intro x1 x2 ag6 hag6 h
  refine a_iload (pc := 6) a 5 dX7_signsOf_6 rfl ?_
  refine a_aload_n (pc := 8) a 0 dX7_signsOf_8 rfl rfl ?_
  refine a_getR (pc := 9) a 0 0 rfl tb vc7 w2 w1 (by decide) (by decide) 1 (q := 162) rfl rfl dX7_signsOf_9 ?_
  refine a_bipush (pc := 12) a dX7_signsOf_12 (by decide) ?_
  refine a_iald (pc := 14) a w3 (by decide) (by decide) dX7_signsOf_14 ?_
  refine a_icmp_ge (pc := 15) a h.1 h.2.1 dX7_signsOf_15 (tgt := 69) (by decide) (fun hq => ?_) (fun hq => ?_)
  · replace h := h.2.2.1 hq
    clear hq
    refine a_iload (pc := 69) a 4 dX7_signsOf_69 rfl ?_
    exact e_i (pc := 71) a hr dX7_signsOf_71 ⟨rfl, h⟩
  · replace h := h.2.2.2 hq
    clear hq
    refine a_iload (pc := 18) a 4 dX7_signsOf_18 rfl ?_
    refine a_aload_n (pc := 20) a 0 dX7_signsOf_20 rfl rfl ?_
    refine a_getR (pc := 21) a 8 8 rfl tb vc7 w2 w4 (by decide) (by decide) 6 (q := 167) rfl rfl dX7_signsOf_21 ?_
    refine a_iload (pc := 24) a 5 dX7_signsOf_24 rfl ?_
    refine a_zald (pc := 26) a w5 (by decide) h.1 dX7_signsOf_26 ?_
    replace h := h.2
    refine a_if_eq (pc := 27) a h.1 dX7_signsOf_27 (tgt := 59) (by decide) (fun hq => ?_) (fun hq => ?_)
    · replace h := h.2.1 hq
      clear hq
      refine a_iconst (pc := 59) a dX7_signsOf_59 ?_
      refine a_iadd (pc := 60) a dX7_signsOf_60 ?_
      refine a_nm (fun x3 hx => ?_)
      replace h := h x3 hx
      clear hx
      refine a_istore (pc := 61) a (ls1 := [(4, vI x3), (0, Value.ref (ad 161)), (1, vI p1), (2, vI p2), (3, vI p3), (5, vI x2)]) dX7_signsOf_61 (by decide) rfl ?_
      refine a_iinc (pc := 63) a (ls1 := [(5, vI (x2 + 1)), (4, vI x3), (0, Value.ref (ad 161)), (1, vI p1), (2, vI p2), (3, vI p3)]) 5 dX7_signsOf_63 rfl (by decide) rfl ?_
      refine a_goto (pc := 66) a dX7_signsOf_66 (tgt := 6) (by decide) ?_
      refine a_sub (ls1 := [(0, Value.ref (ad 161)), (1, vI p1), (2, vI p2), (3, vI p3), (4, vI x3), (5, vI (x2 + 1))]) [2, 3, 4, 5, 1, 0] rfl ?_
      exact hag6 x3 (x2 + 1) h
    · replace h := h.2.2 hq
      clear hq
      refine a_aload_n (pc := 30) a 0 dX7_signsOf_30 rfl rfl ?_
      refine a_iload (pc := 31) a 5 dX7_signsOf_31 rfl ?_
      refine a_iconst (pc := 33) a dX7_signsOf_33 ?_
      refine a_cvi (pc := 34) a (As := [vI x2, vI 0]) (rest := [vI x1]) tb vc7 (fun sz => c_X7_of hinj hl0  h sz) (cwV 2 hts (gl_V (GL_10 _ (by decide +kernel)) (GL_10 _ (by decide +kernel)) (GL_10 _ (by decide +kernel)) (GL_1 _ (by decide +kernel)) (GL_11 _ (by decide +kernel))) rfl rfl rfl (by decide +kernel) ⟨Nat.le_of_ble_eq_true rfl, Nat.le_of_ble_eq_true rfl⟩) rfl rfl (Nat.le_of_ble_eq_true rfl) ⟨Nat.le_of_ble_eq_true rfl, Nat.le_of_ble_eq_true rfl⟩ dX7_signsOf_34 ?_
      rintro x4 s9 ⟨hs9, h9⟩
      subst s9
      replace h := h9
      clear h9
      refine a_iload_n (pc := 37) a 1 dX7_signsOf_37 rfl rfl ?_
      refine a_icmp_ne (pc := 38) a h.1 h.2.1 dX7_signsOf_38 (tgt := 59) (by decide) (fun hq => ?_) (fun hq => ?_)
      · replace h := h.2.2.1 hq
        clear hq
        refine a_iconst (pc := 59) a dX7_signsOf_59 ?_
        refine a_iadd (pc := 60) a dX7_signsOf_60 ?_
        refine a_nm (fun x5 hx => ?_)
        replace h := h x5 hx
        clear hx
        refine a_istore (pc := 61) a (ls1 := [(4, vI x5), (0, Value.ref (ad 161)), (1, vI p1), (2, vI p2), (3, vI p3), (5, vI x2)]) dX7_signsOf_61 (by decide) rfl ?_
        refine a_iinc (pc := 63) a (ls1 := [(5, vI (x2 + 1)), (4, vI x5), (0, Value.ref (ad 161)), (1, vI p1), (2, vI p2), (3, vI p3)]) 5 dX7_signsOf_63 rfl (by decide) rfl ?_
        refine a_goto (pc := 66) a dX7_signsOf_66 (tgt := 6) (by decide) ?_
        refine a_sub (ls1 := [(0, Value.ref (ad 161)), (1, vI p1), (2, vI p2), (3, vI p3), (4, vI x5), (5, vI (x2 + 1))]) [2, 3, 4, 5, 1, 0] rfl ?_
        exact hag6 x5 (x2 + 1) h
      · replace h := h.2.2.2 hq
        clear hq
        refine a_aload_n (pc := 41) a 0 dX7_signsOf_41 rfl rfl ?_
        refine a_iload (pc := 42) a 5 dX7_signsOf_42 rfl ?_
        refine a_cvi (pc := 44) a (As := [vI x2]) (rest := [vI x1]) tb vc7 (fun sz => c_X7_classOf hinj hl0  h sz) (cwV 1 hts (gl_V (GL_23 _ (by decide +kernel)) (GL_23 _ (by decide +kernel)) (GL_23 _ (by decide +kernel)) (GL_1 _ (by decide +kernel)) (GL_23 _ (by decide +kernel))) rfl rfl rfl (by decide +kernel) ⟨Nat.le_of_ble_eq_true rfl, Nat.le_of_ble_eq_true rfl⟩) rfl rfl (Nat.le_of_ble_eq_true rfl) ⟨Nat.le_of_ble_eq_true rfl, Nat.le_of_ble_eq_true rfl⟩ dX7_signsOf_44 ?_
        rintro x6 s9 ⟨hs9, h9⟩
        subst s9
        replace h := h9
        clear h9
        refine a_iload_n (pc := 47) a 2 dX7_signsOf_47 rfl rfl ?_
        refine a_iload_n (pc := 48) a 3 dX7_signsOf_48 rfl rfl ?_
        refine a_csi (pc := 49) a (As := [vI x6, vI p2, vI p3]) (rest := [vI x1]) (fun sz => c_X7_in hinj hl0  h sz) (va_cwS 3 hts (gl_S (GL_8 _ (by decide +kernel)) (GL_8 _ (by decide +kernel)) (GL_1 _ (by decide +kernel)) (GL_8 _ (by decide +kernel))) rfl rfl rfl (by decide +kernel) ⟨Nat.le_of_ble_eq_true rfl, Nat.le_of_ble_eq_true rfl⟩) rfl rfl (Nat.le_of_ble_eq_true rfl) ⟨Nat.le_of_ble_eq_true rfl, Nat.le_of_ble_eq_true rfl⟩ dX7_signsOf_49 ?_
        rintro x7 s9 ⟨hs9, h9⟩
        subst s9
        replace h := h9
        clear h9
        refine a_if_eq (pc := 52) a h.1 dX7_signsOf_52 (tgt := 59) (by decide) (fun hq => ?_) (fun hq => ?_)
        · replace h := h.2.1 hq
          clear hq
          refine a_iconst (pc := 59) a dX7_signsOf_59 ?_
          refine a_iadd (pc := 60) a dX7_signsOf_60 ?_
          refine a_nm (fun x8 hx => ?_)
          replace h := h x8 hx
          clear hx
          refine a_istore (pc := 61) a (ls1 := [(4, vI x8), (0, Value.ref (ad 161)), (1, vI p1), (2, vI p2), (3, vI p3), (5, vI x2)]) dX7_signsOf_61 (by decide) rfl ?_
          refine a_iinc (pc := 63) a (ls1 := [(5, vI (x2 + 1)), (4, vI x8), (0, Value.ref (ad 161)), (1, vI p1), (2, vI p2), (3, vI p3)]) 5 dX7_signsOf_63 rfl (by decide) rfl ?_
          refine a_goto (pc := 66) a dX7_signsOf_66 (tgt := 6) (by decide) ?_
          refine a_sub (ls1 := [(0, Value.ref (ad 161)), (1, vI p1), (2, vI p2), (3, vI p3), (4, vI x8), (5, vI (x2 + 1))]) [2, 3, 4, 5, 1, 0] rfl ?_
          exact hag6 x8 (x2 + 1) h
        · replace h := h.2.2 hq
          clear hq
          refine a_iconst (pc := 55) a dX7_signsOf_55 ?_
          refine a_goto (pc := 56) a dX7_signsOf_56 (tgt := 60) (by decide) ?_
          refine a_iadd (pc := 60) a dX7_signsOf_60 ?_
          refine a_nm (fun x9 hx => ?_)
          replace h := h x9 hx
          clear hx
          refine a_istore (pc := 61) a (ls1 := [(4, vI x9), (0, Value.ref (ad 161)), (1, vI p1), (2, vI p2), (3, vI p3), (5, vI x2)]) dX7_signsOf_61 (by decide) rfl ?_
          refine a_iinc (pc := 63) a (ls1 := [(5, vI (x2 + 1)), (4, vI x9), (0, Value.ref (ad 161)), (1, vI p1), (2, vI p2), (3, vI p3)]) 5 dX7_signsOf_63 rfl (by decide) rfl ?_
          refine a_goto (pc := 66) a dX7_signsOf_66 (tgt := 6) (by decide) ?_
          refine a_sub (ls1 := [(0, Value.ref (ad 161)), (1, vI p1), (2, vI p2), (3, vI p3), (4, vI x9), (5, vI (x2 + 1))]) [2, 3, 4, 5, 1, 0] rfl ?_
          exact hag6 x9 (x2 + 1) h

set_option maxRecDepth 100000 in
set_option maxHeartbeats 4000000 in
theorem c_X7_addsKind {l : Launch} {D : va_G} {X : XI} {ad : Nat → Nat} (hinj : adI ad) (hl0 : l.stackTraces = false) {p1 : Int}  {σ : St} {K : St → Prop} (h : f_X7_addsKind p1 σ K) (sz : Nat) : Met l yX7_addsKind (WW (.code yX7_addsKind cX7_addsKind 5 none)) { frames := 3, cells := 0, slots := 0, locals := 71 } (va_Pc [Value.ref (ad 161), vI p1] (WD D X ad σ sz)) (QV D X ad sz K) 0 0 (AA ad sz) := by
  refine a_start (cc := cX7_addsKind) (maxL := 5) (ret := none) (own := RX7) [Value.ref (ad 161), vI p1] (by decide) rfl rfl (Nat.le_of_ble_eq_true rfl) hinj hl0 ?_
  intro p e s m below meth c a hr hsz
  subst hsz
  have hts := a.1.2.2.2.2
  have tb : tyc 161 (11, 0) := ⟨by decide, rfl⟩
  have w1 := hts (Cond.fieldLink RX7 7 "SightLegendModel" "s" "[I") (List.mem_cons_of_mem _ (GL_5 _ (by decide +kernel)))
  have w2 : ∀ w ∈ u_ws RX7 TX7 29, w ∈ WW (.code yX7_addsKind cX7_addsKind 5 none) := fun w h => List.mem_cons_of_mem _ (inlX7 w h)
  have w3 : tyc 162 (0, 311) := ty_of (d := 1) (t1 := (0, 311)) (by decide +kernel) rfl tb
  have w4 := hts (Cond.fieldLink RX7 41 "SightLegendModel" "firsts" "[I") (List.mem_cons_of_mem _ (GL_5 _ (by decide +kernel)))
  have w5 : tyc 172 (0, 6) := ty_of (d := 11) (t1 := (0, 6)) (by decide +kernel) rfl tb
  have w6 := hts (Cond.fieldLink RX7 44 "SightLegendModel" "lasts" "[I") (List.mem_cons_of_mem _ (GL_5 _ (by decide +kernel)))
  have w7 : tyc 173 (0, 6) := ty_of (d := 12) (t1 := (0, 6)) (by decide +kernel) rfl tb
  have w8 := hts (Cond.fieldLink RX7 47 "SightLegendModel" "sums" "[I") (List.mem_cons_of_mem _ (GL_5 _ (by decide +kernel)))
  have w9 : tyc 174 (0, 6) := ty_of (d := 13) (t1 := (0, 6)) (by decide +kernel) rfl tb
  unfold f_X7_addsKind at h
  refine a_sub (ls1 := [(0, Value.ref (ad 161)), (1, vI p1)]) [0, 1] rfl ?_
  refine a_iconst (pc := 0) a dX7_addsKind_0 ?_
  refine a_istore_n (pc := 1) a (ls1 := [(2, vI 0), (0, Value.ref (ad 161)), (1, vI p1)]) dX7_addsKind_1 rfl (by decide) rfl ?_
  refine a_iconst (pc := 2) a dX7_addsKind_2 ?_
  refine a_istore_n (pc := 3) a (ls1 := [(3, vI 0), (2, vI 0), (0, Value.ref (ad 161)), (1, vI p1)]) dX7_addsKind_3 rfl (by decide) rfl ?_
  refine a_sub (ls1 := [(0, Value.ref (ad 161)), (1, vI p1), (2, vI 0), (3, vI 0)]) [2, 3, 1, 0] rfl ?_
  refine g_wl2s (fun x1 x2 => [(0, Value.ref (ad 161)), (1, vI p1), (2, vI x1), (3, vI x2)]) h ?_
  clear h
  intro x1 x2 s3 ag4 hag4 h
  refine a_iload_n (pc := 4) a 3 dX7_addsKind_4 rfl rfl ?_
  refine a_bipush (pc := 5) a dX7_addsKind_5 (by decide) ?_
  refine a_icmp_ge (pc := 7) a h.1 ⟨by decide, by decide⟩ dX7_addsKind_7 (tgt := 55) (by decide) (fun hq => ?_) (fun hq => ?_)
  · replace h := h.2.1 hq
    clear hq
    refine a_sub (ls1 := [(0, Value.ref (ad 161)), (1, vI p1), (2, vI x1)]) [0, 1, 2] rfl ?_
    refine g_wl1s (fun x4 => [(0, Value.ref (ad 161)), (1, vI p1), (2, vI x4)]) h ?_
    clear h
    intro x4 s5 ag55 hag55 h
    refine a_iload_n (pc := 55) a 2 dX7_addsKind_55 rfl rfl ?_
    refine a_aload_n (pc := 56) a 0 dX7_addsKind_56 rfl rfl ?_
    refine a_getR (pc := 57) a 0 0 rfl tb vc7 w2 w1 (by decide) (by decide) 1 (q := 162) rfl rfl dX7_addsKind_57 ?_
    refine a_iconst (pc := 60) a dX7_addsKind_60 ?_
    refine a_iald (pc := 61) a w3 (by decide) (by decide) dX7_addsKind_61 ?_
    refine a_icmp_le (pc := 62) a h.1 h.2.1 dX7_addsKind_62 (tgt := 228) (by decide) (fun hq => ?_) (fun hq => ?_)
    · replace h := h.2.2.1 hq
      clear hq
      refine a_iconst (pc := 228) a dX7_addsKind_228 ?_
      refine a_istore_n (pc := 229) a (ls1 := [(3, vI 0), (0, Value.ref (ad 161)), (1, vI p1), (2, vI x4)]) dX7_addsKind_229 rfl (by decide) rfl ?_
      refine a_sub (ls1 := [(0, Value.ref (ad 161)), (1, vI p1), (2, vI x4), (3, vI 0)]) [1, 2, 3, 0] rfl ?_
      refine g_wl1s (fun x6 => [(0, Value.ref (ad 161)), (1, vI p1), (2, vI x4), (3, vI x6)]) h ?_
      clear h
      intro x6 s7 ag230 hag230 h
      refine a_iload_n (pc := 230) a 3 dX7_addsKind_230 rfl rfl ?_
      refine a_iload_n (pc := 231) a 2 dX7_addsKind_231 rfl rfl ?_
      refine a_icmp_ge (pc := 232) a h.1 h.2.1 dX7_addsKind_232 (tgt := 264) (by decide) (fun hq => ?_) (fun hq => ?_)
      · replace h := h.2.2.1 hq
        clear hq
        exact e_v (pc := 264) a hr dX7_addsKind_264 h
      · replace h := h.2.2.2 hq
        clear hq
        refine a_aload_n (pc := 235) a 0 dX7_addsKind_235 rfl rfl ?_
        refine a_iconst (pc := 236) a dX7_addsKind_236 ?_
        refine a_iload_n (pc := 237) a 1 dX7_addsKind_237 rfl rfl ?_
        refine a_aload_n (pc := 238) a 0 dX7_addsKind_238 rfl rfl ?_
        refine a_iload_n (pc := 239) a 1 dX7_addsKind_239 rfl rfl ?_
        refine a_cvi (pc := 240) a (As := [vI p1]) (rest := [vI p1, vI 0, Value.ref (ad 161)]) tb vc7 (fun sz => c_X7_groupOf hinj hl0  h sz) (cwV 1 hts (gl_V (GL_23 _ (by decide +kernel)) (GL_23 _ (by decide +kernel)) (GL_23 _ (by decide +kernel)) (GL_1 _ (by decide +kernel)) (GL_23 _ (by decide +kernel))) rfl rfl rfl (by decide +kernel) ⟨Nat.le_of_ble_eq_true rfl, Nat.le_of_ble_eq_true rfl⟩) rfl rfl (Nat.le_of_ble_eq_true rfl) ⟨Nat.le_of_ble_eq_true rfl, Nat.le_of_ble_eq_true rfl⟩ dX7_addsKind_240 ?_
        rintro x8 s9 ⟨hs9, h9⟩
        subst s9
        replace h := h9
        clear h9
        refine a_aload_n (pc := 243) a 0 dX7_addsKind_243 rfl rfl ?_
        refine a_getR (pc := 244) a 23 23 rfl tb vc7 w2 w4 (by decide) (by decide) 11 (q := 172) rfl rfl dX7_addsKind_244 ?_
        refine a_iload_n (pc := 247) a 3 dX7_addsKind_247 rfl rfl ?_
        refine a_iald (pc := 248) a w5 (by decide) h.1 dX7_addsKind_248 ?_
        replace h := h.2
        refine a_aload_n (pc := 249) a 0 dX7_addsKind_249 rfl rfl ?_
        refine a_getR (pc := 250) a 24 24 rfl tb vc7 w2 w6 (by decide) (by decide) 12 (q := 173) rfl rfl dX7_addsKind_250 ?_
        refine a_iload_n (pc := 253) a 3 dX7_addsKind_253 rfl rfl ?_
        refine a_iald (pc := 254) a w7 (by decide) h.1 dX7_addsKind_254 ?_
        replace h := h.2
        refine a_cvv (pc := 255) a (As := [vI 0, vI p1, vI x8, vI (s7 172 x6), vI (s7 173 x6)]) (rest := []) tb vc7 (fun sz => c_X7_adds hinj hl0  h sz) (cwV 5 hts (gl_V (GL_24 _ (by decide +kernel)) (GL_24 _ (by decide +kernel)) (GL_24 _ (by decide +kernel)) (GL_1 _ (by decide +kernel)) (GL_24 _ (by decide +kernel))) rfl rfl rfl (by decide +kernel) ⟨Nat.le_of_ble_eq_true rfl, Nat.le_of_ble_eq_true rfl⟩) rfl rfl (Nat.le_of_ble_eq_true rfl) ⟨Nat.le_of_ble_eq_true rfl, Nat.le_of_ble_eq_true rfl⟩ dX7_addsKind_255 ?_
        clear h
        intro s9 h
        refine a_iinc (pc := 258) a (ls1 := [(3, vI (x6 + 1)), (0, Value.ref (ad 161)), (1, vI p1), (2, vI x4)]) 3 dX7_addsKind_258 rfl (by decide) rfl ?_
        refine a_goto (pc := 261) a dX7_addsKind_261 (tgt := 230) (by decide) ?_
        refine a_sub (ls1 := [(0, Value.ref (ad 161)), (1, vI p1), (2, vI x4), (3, vI (x6 + 1))]) [1, 2, 3, 0] rfl ?_
        exact hag230 (x6 + 1) s9 h
    · replace h := h.2.2.2 hq
      clear hq
      refine a_iconst (pc := 65) a dX7_addsKind_65 ?_
      refine a_istore_n (pc := 66) a (ls1 := [(3, vI 0), (0, Value.ref (ad 161)), (1, vI p1), (2, vI x4)]) dX7_addsKind_66 rfl (by decide) rfl ?_
      refine a_iconst (pc := 67) a dX7_addsKind_67 ?_
      refine a_istore (pc := 68) a (ls1 := [(4, vI 1), (3, vI 0), (0, Value.ref (ad 161)), (1, vI p1), (2, vI x4)]) dX7_addsKind_68 (by decide) rfl ?_
      refine a_sub (ls1 := [(0, Value.ref (ad 161)), (1, vI p1), (2, vI x4), (3, vI 0), (4, vI 1)]) [2, 3, 4, 1, 0] rfl ?_
      refine g_wl2 (fun x10 x11 => [(0, Value.ref (ad 161)), (1, vI p1), (2, vI x4), (3, vI x10), (4, vI x11)]) h ?_
      clear h
      intro x10 x11 ag70 hag70 h
      refine a_iload (pc := 70) a 4 dX7_addsKind_70 rfl ?_
      refine a_iconst (pc := 72) a dX7_addsKind_72 ?_
      refine a_iadd (pc := 73) a dX7_addsKind_73 ?_
      refine a_iload_n (pc := 74) a 2 dX7_addsKind_74 rfl rfl ?_
      refine a_icmp_ge (pc := 75) a h.1 h.2.1 dX7_addsKind_75 (tgt := 126) (by decide) (fun hq => ?_) (fun hq => ?_)
      · replace h := h.2.2.1 hq
        clear hq
        refine a_aload_n (pc := 126) a 0 dX7_addsKind_126 rfl rfl ?_
        refine a_getR (pc := 127) a 24 24 rfl tb vc7 w2 w6 (by decide) (by decide) 12 (q := 173) rfl rfl dX7_addsKind_127 ?_
        refine a_iload_n (pc := 130) a 3 dX7_addsKind_130 rfl rfl ?_
        refine a_aload_n (pc := 131) a 0 dX7_addsKind_131 rfl rfl ?_
        refine a_getR (pc := 132) a 24 24 rfl tb vc7 w2 w6 (by decide) (by decide) 12 (q := 173) rfl rfl dX7_addsKind_132 ?_
        refine a_iload_n (pc := 135) a 3 dX7_addsKind_135 rfl rfl ?_
        refine a_iconst (pc := 136) a dX7_addsKind_136 ?_
        refine a_iadd (pc := 137) a dX7_addsKind_137 ?_
        refine a_iald (pc := 138) a w7 (by decide) h.1 dX7_addsKind_138 ?_
        replace h := h.2
        refine a_iast (pc := 139) a w7 (by decide) h.1 dX7_addsKind_139 ?_
        replace h := h.2
        refine a_nmS (fun s12 hx => ?_)
        replace h := h s12 hx
        clear hx
        refine a_aload_n (pc := 140) a 0 dX7_addsKind_140 rfl rfl ?_
        refine a_getR (pc := 141) a 25 25 rfl tb vc7 w2 w8 (by decide) (by decide) 13 (q := 174) rfl rfl dX7_addsKind_141 ?_
        refine a_iload_n (pc := 144) a 3 dX7_addsKind_144 rfl rfl ?_
        refine a_dup2 (pc := 145) a rfl rfl dX7_addsKind_145 ?_
        refine a_iald (pc := 146) a w9 (by decide) h.1 dX7_addsKind_146 ?_
        replace h := h.2
        refine a_aload_n (pc := 147) a 0 dX7_addsKind_147 rfl rfl ?_
        refine a_getR (pc := 148) a 25 25 rfl tb vc7 w2 w8 (by decide) (by decide) 13 (q := 174) rfl rfl dX7_addsKind_148 ?_
        refine a_iload_n (pc := 151) a 3 dX7_addsKind_151 rfl rfl ?_
        refine a_iconst (pc := 152) a dX7_addsKind_152 ?_
        refine a_iadd (pc := 153) a dX7_addsKind_153 ?_
        refine a_iald (pc := 154) a w9 (by decide) h.1 dX7_addsKind_154 ?_
        replace h := h.2
        refine a_iadd (pc := 155) a dX7_addsKind_155 ?_
        refine a_iast (pc := 156) a w9 (by decide) h.1 dX7_addsKind_156 ?_
        replace h := h.2
        refine a_nmS (fun s13 hx => ?_)
        replace h := h s13 hx
        clear hx
        refine a_iinc (pc := 157) a (ls1 := [(2, vI (x4 + (-1))), (0, Value.ref (ad 161)), (1, vI p1), (3, vI x10), (4, vI x11)]) 2 dX7_addsKind_157 rfl (by decide) rfl ?_
        refine a_iload_n (pc := 160) a 3 dX7_addsKind_160 rfl rfl ?_
        refine a_iconst (pc := 161) a dX7_addsKind_161 ?_
        refine a_iadd (pc := 162) a dX7_addsKind_162 ?_
        refine a_nm (fun x14 hx => ?_)
        replace h := h x14 hx
        clear hx
        refine a_istore (pc := 163) a (ls1 := [(4, vI x14), (2, vI (x4 + (-1))), (0, Value.ref (ad 161)), (1, vI p1), (3, vI x10)]) dX7_addsKind_163 (by decide) rfl ?_
        refine a_sub (ls1 := [(0, Value.ref (ad 161)), (1, vI p1), (2, vI (x4 + (-1))), (4, vI x14)]) [2, 3, 1, 0] rfl ?_
        refine g_wl1s (fun x15 => [(0, Value.ref (ad 161)), (1, vI p1), (2, vI (x4 + (-1))), (4, vI x15)]) h ?_
        clear h
        intro x15 s16 ag165 hag165 h
        refine a_iload (pc := 165) a 3 dX7_addsKind_165 rfl ?_
        refine a_iload_n (pc := 167) a 2 dX7_addsKind_167 rfl rfl ?_
        refine a_icmp_ge (pc := 168) a h.1 h.2.1 dX7_addsKind_168 (tgt := 225) (by decide) (fun hq => ?_) (fun hq => ?_)
        · replace h := h.2.2.1 hq
          clear hq
          refine a_goto (pc := 225) a dX7_addsKind_225 (tgt := 55) (by decide) ?_
          refine a_sub (ls1 := [(0, Value.ref (ad 161)), (1, vI p1), (2, vI (x4 + (-1)))]) [0, 1, 2] rfl ?_
          exact hag55 (x4 + (-1)) s16 h
        · replace h := h.2.2.2 hq
          clear hq
          refine a_aload_n (pc := 171) a 0 dX7_addsKind_171 rfl rfl ?_
          refine a_getR (pc := 172) a 23 23 rfl tb vc7 w2 w4 (by decide) (by decide) 11 (q := 172) rfl rfl dX7_addsKind_172 ?_
          refine a_iload (pc := 175) a 3 dX7_addsKind_175 rfl ?_
          refine a_aload_n (pc := 177) a 0 dX7_addsKind_177 rfl rfl ?_
          refine a_getR (pc := 178) a 23 23 rfl tb vc7 w2 w4 (by decide) (by decide) 11 (q := 172) rfl rfl dX7_addsKind_178 ?_
          refine a_iload (pc := 181) a 3 dX7_addsKind_181 rfl ?_
          refine a_iconst (pc := 183) a dX7_addsKind_183 ?_
          refine a_iadd (pc := 184) a dX7_addsKind_184 ?_
          refine a_iald (pc := 185) a w5 (by decide) h.1 dX7_addsKind_185 ?_
          replace h := h.2
          refine a_iast (pc := 186) a w5 (by decide) h.1 dX7_addsKind_186 ?_
          replace h := h.2
          refine a_nmS (fun s17 hx => ?_)
          replace h := h s17 hx
          clear hx
          refine a_aload_n (pc := 187) a 0 dX7_addsKind_187 rfl rfl ?_
          refine a_getR (pc := 188) a 24 24 rfl tb vc7 w2 w6 (by decide) (by decide) 12 (q := 173) rfl rfl dX7_addsKind_188 ?_
          refine a_iload (pc := 191) a 3 dX7_addsKind_191 rfl ?_
          refine a_aload_n (pc := 193) a 0 dX7_addsKind_193 rfl rfl ?_
          refine a_getR (pc := 194) a 24 24 rfl tb vc7 w2 w6 (by decide) (by decide) 12 (q := 173) rfl rfl dX7_addsKind_194 ?_
          refine a_iload (pc := 197) a 3 dX7_addsKind_197 rfl ?_
          refine a_iconst (pc := 199) a dX7_addsKind_199 ?_
          refine a_iadd (pc := 200) a dX7_addsKind_200 ?_
          refine a_iald (pc := 201) a w7 (by decide) h.1 dX7_addsKind_201 ?_
          replace h := h.2
          refine a_iast (pc := 202) a w7 (by decide) h.1 dX7_addsKind_202 ?_
          replace h := h.2
          refine a_nmS (fun s18 hx => ?_)
          replace h := h s18 hx
          clear hx
          refine a_aload_n (pc := 203) a 0 dX7_addsKind_203 rfl rfl ?_
          refine a_getR (pc := 204) a 25 25 rfl tb vc7 w2 w8 (by decide) (by decide) 13 (q := 174) rfl rfl dX7_addsKind_204 ?_
          refine a_iload (pc := 207) a 3 dX7_addsKind_207 rfl ?_
          refine a_aload_n (pc := 209) a 0 dX7_addsKind_209 rfl rfl ?_
          refine a_getR (pc := 210) a 25 25 rfl tb vc7 w2 w8 (by decide) (by decide) 13 (q := 174) rfl rfl dX7_addsKind_210 ?_
          refine a_iload (pc := 213) a 3 dX7_addsKind_213 rfl ?_
          refine a_iconst (pc := 215) a dX7_addsKind_215 ?_
          refine a_iadd (pc := 216) a dX7_addsKind_216 ?_
          refine a_iald (pc := 217) a w9 (by decide) h.1 dX7_addsKind_217 ?_
          replace h := h.2
          refine a_iast (pc := 218) a w9 (by decide) h.1 dX7_addsKind_218 ?_
          replace h := h.2
          refine a_nmS (fun s19 hx => ?_)
          replace h := h s19 hx
          clear hx
          refine a_iinc (pc := 219) a (ls1 := [(4, vI (x15 + 1)), (0, Value.ref (ad 161)), (1, vI p1), (2, vI (x4 + (-1)))]) 3 dX7_addsKind_219 rfl (by decide) rfl ?_
          refine a_goto (pc := 222) a dX7_addsKind_222 (tgt := 165) (by decide) ?_
          refine a_sub (ls1 := [(0, Value.ref (ad 161)), (1, vI p1), (2, vI (x4 + (-1))), (4, vI (x15 + 1))]) [1, 2, 3, 0] rfl ?_
          exact hag165 (x15 + 1) s19 h
      · replace h := h.2.2.2 hq
        clear hq
        refine a_aload_n (pc := 78) a 0 dX7_addsKind_78 rfl rfl ?_
        refine a_getR (pc := 79) a 25 25 rfl tb vc7 w2 w8 (by decide) (by decide) 13 (q := 174) rfl rfl dX7_addsKind_79 ?_
        refine a_iload (pc := 82) a 4 dX7_addsKind_82 rfl ?_
        refine a_iald (pc := 84) a w9 (by decide) h.1 dX7_addsKind_84 ?_
        replace h := h.2
        refine a_aload_n (pc := 85) a 0 dX7_addsKind_85 rfl rfl ?_
        refine a_getR (pc := 86) a 25 25 rfl tb vc7 w2 w8 (by decide) (by decide) 13 (q := 174) rfl rfl dX7_addsKind_86 ?_
        refine a_iload (pc := 89) a 4 dX7_addsKind_89 rfl ?_
        refine a_iconst (pc := 91) a dX7_addsKind_91 ?_
        refine a_iadd (pc := 92) a dX7_addsKind_92 ?_
        refine a_iald (pc := 93) a w9 (by decide) h.1 dX7_addsKind_93 ?_
        replace h := h.2
        refine a_iadd (pc := 94) a dX7_addsKind_94 ?_
        refine a_aload_n (pc := 95) a 0 dX7_addsKind_95 rfl rfl ?_
        refine a_getR (pc := 96) a 25 25 rfl tb vc7 w2 w8 (by decide) (by decide) 13 (q := 174) rfl rfl dX7_addsKind_96 ?_
        refine a_iload_n (pc := 99) a 3 dX7_addsKind_99 rfl rfl ?_
        refine a_iald (pc := 100) a w9 (by decide) h.1 dX7_addsKind_100 ?_
        replace h := h.2
        refine a_aload_n (pc := 101) a 0 dX7_addsKind_101 rfl rfl ?_
        refine a_getR (pc := 102) a 25 25 rfl tb vc7 w2 w8 (by decide) (by decide) 13 (q := 174) rfl rfl dX7_addsKind_102 ?_
        refine a_iload_n (pc := 105) a 3 dX7_addsKind_105 rfl rfl ?_
        refine a_iconst (pc := 106) a dX7_addsKind_106 ?_
        refine a_iadd (pc := 107) a dX7_addsKind_107 ?_
        refine a_iald (pc := 108) a w9 (by decide) h.1 dX7_addsKind_108 ?_
        replace h := h.2
        refine a_iadd (pc := 109) a dX7_addsKind_109 ?_
        refine a_icmp_ge (pc := 110) a h.1 h.2.1 dX7_addsKind_110 (tgt := 118) (by decide) (fun hq => ?_) (fun hq => ?_)
        · replace h := h.2.2.1 hq
          clear hq
          refine a_iload_n (pc := 118) a 3 dX7_addsKind_118 rfl rfl ?_
          refine a_istore_n (pc := 119) a (ls1 := [(3, vI x10), (0, Value.ref (ad 161)), (1, vI p1), (2, vI x4), (4, vI x11)]) dX7_addsKind_119 rfl (by decide) rfl ?_
          refine a_iinc (pc := 120) a (ls1 := [(4, vI (x11 + 1)), (3, vI x10), (0, Value.ref (ad 161)), (1, vI p1), (2, vI x4)]) 4 dX7_addsKind_120 rfl (by decide) rfl ?_
          refine a_goto (pc := 123) a dX7_addsKind_123 (tgt := 70) (by decide) ?_
          refine a_sub (ls1 := [(0, Value.ref (ad 161)), (1, vI p1), (2, vI x4), (3, vI x10), (4, vI (x11 + 1))]) [2, 3, 4, 1, 0] rfl ?_
          exact hag70 x10 (x11 + 1) h
        · replace h := h.2.2.2 hq
          clear hq
          refine a_iload (pc := 113) a 4 dX7_addsKind_113 rfl ?_
          refine a_goto (pc := 115) a dX7_addsKind_115 (tgt := 119) (by decide) ?_
          refine a_istore_n (pc := 119) a (ls1 := [(3, vI x11), (0, Value.ref (ad 161)), (1, vI p1), (2, vI x4), (4, vI x11)]) dX7_addsKind_119 rfl (by decide) rfl ?_
          refine a_iinc (pc := 120) a (ls1 := [(4, vI (x11 + 1)), (3, vI x11), (0, Value.ref (ad 161)), (1, vI p1), (2, vI x4)]) 4 dX7_addsKind_120 rfl (by decide) rfl ?_
          refine a_goto (pc := 123) a dX7_addsKind_123 (tgt := 70) (by decide) ?_
          refine a_sub (ls1 := [(0, Value.ref (ad 161)), (1, vI p1), (2, vI x4), (3, vI x11), (4, vI (x11 + 1))]) [2, 3, 4, 1, 0] rfl ?_
          exact hag70 x11 (x11 + 1) h
  · replace h := h.2.2 hq
    clear hq
    refine a_aload_n (pc := 10) a 0 dX7_addsKind_10 rfl rfl ?_
    refine a_iload_n (pc := 11) a 1 dX7_addsKind_11 rfl rfl ?_
    refine a_iload_n (pc := 12) a 3 dX7_addsKind_12 rfl rfl ?_
    refine a_iload_n (pc := 13) a 3 dX7_addsKind_13 rfl rfl ?_
    refine a_cvi (pc := 14) a (As := [vI p1, vI x2, vI x2]) (rest := []) tb vc7 (fun sz => c_X7_signsOf hinj hl0  h sz) (cwV 3 hts (gl_V (GL_23 _ (by decide +kernel)) (GL_23 _ (by decide +kernel)) (GL_23 _ (by decide +kernel)) (GL_1 _ (by decide +kernel)) (GL_23 _ (by decide +kernel))) rfl rfl rfl (by decide +kernel) ⟨Nat.le_of_ble_eq_true rfl, Nat.le_of_ble_eq_true rfl⟩) rfl rfl (Nat.le_of_ble_eq_true rfl) ⟨Nat.le_of_ble_eq_true rfl, Nat.le_of_ble_eq_true rfl⟩ dX7_addsKind_14 ?_
    rintro x20 s9 ⟨hs9, h9⟩
    subst s9
    replace h := h9
    clear h9
    refine a_istore (pc := 17) a (ls1 := [(4, vI x20), (0, Value.ref (ad 161)), (1, vI p1), (2, vI x1), (3, vI x2)]) dX7_addsKind_17 (by decide) rfl ?_
    refine a_iload (pc := 19) a 0 dX7_addsKind_19 rfl ?_
    refine a_if_le (pc := 21) a h.1 dX7_addsKind_21 (tgt := 49) (by decide) (fun hq => ?_) (fun hq => ?_)
    · replace h := h.2.1 hq
      clear hq
      refine a_iinc (pc := 49) a (ls1 := [(3, vI (x2 + 1)), (4, vI x20), (0, Value.ref (ad 161)), (1, vI p1), (2, vI x1)]) 4 dX7_addsKind_49 rfl (by decide) rfl ?_
      refine a_goto (pc := 52) a dX7_addsKind_52 (tgt := 4) (by decide) ?_
      refine a_sub (ls1 := [(0, Value.ref (ad 161)), (1, vI p1), (2, vI x1), (3, vI (x2 + 1))]) [2, 3, 4, 0] rfl ?_
      exact hag4 x1 (x2 + 1) s3 h
    · replace h := h.2.2 hq
      clear hq
      refine a_aload_n (pc := 24) a 1 dX7_addsKind_24 rfl rfl ?_
      refine a_getR (pc := 25) a 23 23 rfl tb vc7 w2 w4 (by decide) (by decide) 11 (q := 172) rfl rfl dX7_addsKind_25 ?_
      refine a_iload_n (pc := 28) a 3 dX7_addsKind_28 rfl rfl ?_
      refine a_iload_n (pc := 29) a 4 dX7_addsKind_29 rfl rfl ?_
      refine a_iast (pc := 30) a w5 (by decide) h.1 dX7_addsKind_30 ?_
      replace h := h.2
      refine a_nmS (fun s21 hx => ?_)
      replace h := h s21 hx
      clear hx
      refine a_aload_n (pc := 31) a 1 dX7_addsKind_31 rfl rfl ?_
      refine a_getR (pc := 32) a 24 24 rfl tb vc7 w2 w6 (by decide) (by decide) 12 (q := 173) rfl rfl dX7_addsKind_32 ?_
      refine a_iload_n (pc := 35) a 3 dX7_addsKind_35 rfl rfl ?_
      refine a_iload_n (pc := 36) a 4 dX7_addsKind_36 rfl rfl ?_
      refine a_iast (pc := 37) a w7 (by decide) h.1 dX7_addsKind_37 ?_
      replace h := h.2
      refine a_nmS (fun s22 hx => ?_)
      replace h := h s22 hx
      clear hx
      refine a_aload_n (pc := 38) a 1 dX7_addsKind_38 rfl rfl ?_
      refine a_getR (pc := 39) a 25 25 rfl tb vc7 w2 w8 (by decide) (by decide) 13 (q := 174) rfl rfl dX7_addsKind_39 ?_
      refine a_iload_n (pc := 42) a 3 dX7_addsKind_42 rfl rfl ?_
      refine a_iload (pc := 43) a 0 dX7_addsKind_43 rfl ?_
      refine a_iast (pc := 45) a w9 (by decide) h.1 dX7_addsKind_45 ?_
      replace h := h.2
      refine a_nmS (fun s23 hx => ?_)
      replace h := h s23 hx
      clear hx
      refine a_iinc (pc := 46) a (ls1 := [(2, vI (x1 + 1)), (4, vI x20), (0, Value.ref (ad 161)), (1, vI p1), (3, vI x2)]) 3 dX7_addsKind_46 rfl (by decide) rfl ?_
      refine a_iinc (pc := 49) a (ls1 := [(3, vI (x2 + 1)), (2, vI (x1 + 1)), (4, vI x20), (0, Value.ref (ad 161)), (1, vI p1)]) 4 dX7_addsKind_49 rfl (by decide) rfl ?_
      refine a_goto (pc := 52) a dX7_addsKind_52 (tgt := 4) (by decide) ?_
      refine a_sub (ls1 := [(0, Value.ref (ad 161)), (1, vI p1), (2, vI (x1 + 1)), (3, vI (x2 + 1))]) [3, 4, 1, 0] rfl ?_
      exact hag4 (x1 + 1) (x2 + 1) s23 h

set_option maxRecDepth 100000 in
set_option maxHeartbeats 4000000 in
theorem c_X7_lowest {l : Launch} {D : va_G} {X : XI} {ad : Nat → Nat} (hinj : adI ad) (hl0 : l.stackTraces = false) {p1 : Int}  {σ : St} {K : Int → Prop} (h : f_X7_lowest p1 σ K) (sz : Nat) : Met l yX7_lowest (WW (.code yX7_lowest cX7_lowest 5 (some .int))) { frames := 1, cells := 0, slots := 0, locals := 21 } (va_Pc [Value.ref (ad 161), vI p1] (WD D X ad σ sz)) (QI D X ad sz (fun r τ => τ = σ ∧ K r)) 0 0 (AA ad sz) := by
  refine a_start (cc := cX7_lowest) (maxL := 5) (ret := (some .int)) (own := RX7) [Value.ref (ad 161), vI p1] (by decide) rfl rfl (Nat.le_of_ble_eq_true rfl) hinj hl0 ?_
  intro p e s m below meth c a hr hsz
  subst hsz
  have hts := a.1.2.2.2.2
  have tb : tyc 161 (11, 0) := ⟨by decide, rfl⟩
  have w1 := hts (Cond.fieldLink RX7 50 "SightLegendModel" "waits" "[Z") (List.mem_cons_of_mem _ (GL_5 _ (by decide +kernel)))
  have w2 : ∀ w ∈ u_ws RX7 TX7 29, w ∈ WW (.code yX7_lowest cX7_lowest 5 (some .int)) := fun w h => List.mem_cons_of_mem _ (inlX7 w h)
  have w3 : tyc 175 (1, 12) := ty_of (d := 14) (t1 := (1, 12)) (by decide +kernel) rfl tb
  unfold f_X7_lowest at h
  refine a_sub (ls1 := [(0, Value.ref (ad 161)), (1, vI p1)]) [0, 1] rfl ?_
  refine a_iconst (pc := 0) a dX7_lowest_0 ?_
  refine a_istore_n (pc := 1) a (ls1 := [(2, vI (-1)), (0, Value.ref (ad 161)), (1, vI p1)]) dX7_lowest_1 rfl (by decide) rfl ?_
  refine a_iconst (pc := 2) a dX7_lowest_2 ?_
  refine a_istore_n (pc := 3) a (ls1 := [(3, vI 0), (2, vI (-1)), (0, Value.ref (ad 161)), (1, vI p1)]) dX7_lowest_3 rfl (by decide) rfl ?_
  refine a_sub (ls1 := [(0, Value.ref (ad 161)), (1, vI p1), (2, vI (-1)), (3, vI 0)]) [2, 3, 1, 0] rfl ?_
  refine g_wl2 (fun x1 x2 => [(0, Value.ref (ad 161)), (1, vI p1), (2, vI x1), (3, vI x2)]) h ?_
  clear h
  intro x1 x2 ag4 hag4 h
  refine a_iload_n (pc := 4) a 3 dX7_lowest_4 rfl rfl ?_
  refine a_bipush (pc := 5) a dX7_lowest_5 (by decide) ?_
  refine a_icmp_ge (pc := 7) a h.1 ⟨by decide, by decide⟩ dX7_lowest_7 (tgt := 75) (by decide) (fun hq => ?_) (fun hq => ?_)
  · replace h := h.2.1 hq
    clear hq
    refine a_iload_n (pc := 75) a 2 dX7_lowest_75 rfl rfl ?_
    exact e_i (pc := 76) a hr dX7_lowest_76 ⟨rfl, h⟩
  · replace h := h.2.2 hq
    clear hq
    refine a_aload_n (pc := 10) a 0 dX7_lowest_10 rfl rfl ?_
    refine a_getR (pc := 11) a 26 26 rfl tb vc7 w2 w1 (by decide) (by decide) 14 (q := 175) rfl rfl dX7_lowest_11 ?_
    refine a_iload_n (pc := 14) a 3 dX7_lowest_14 rfl rfl ?_
    refine a_zald (pc := 15) a w3 (by decide) h.1 dX7_lowest_15 ?_
    replace h := h.2
    refine g_wj1 38 0 0 (fun x7 => [(0, Value.ref (ad 161)), (1, vI p1), (2, vI x1), (3, vI x2)]) (fun x7 => [vI x7]) h ?_ ?_
    · clear h
      intro x7 h
      refine a_istore (pc := 38) a (ls1 := [(4, vI x7), (0, Value.ref (ad 161)), (1, vI p1), (2, vI x1), (3, vI x2)]) dX7_lowest_38 (by decide) rfl ?_
      refine a_iload (pc := 40) a 0 dX7_lowest_40 rfl ?_
      refine a_if_eq (pc := 42) a h.1 dX7_lowest_42 (tgt := 67) (by decide) (fun hq => ?_) (fun hq => ?_)
      · replace h := h.2.1 hq
        clear hq
        refine a_iload_n (pc := 67) a 3 dX7_lowest_67 rfl rfl ?_
        refine a_istore_n (pc := 68) a (ls1 := [(2, vI x1), (4, vI x7), (0, Value.ref (ad 161)), (1, vI p1), (3, vI x2)]) dX7_lowest_68 rfl (by decide) rfl ?_
        refine a_iinc (pc := 69) a (ls1 := [(3, vI (x2 + 1)), (2, vI x1), (4, vI x7), (0, Value.ref (ad 161)), (1, vI p1)]) 4 dX7_lowest_69 rfl (by decide) rfl ?_
        refine a_goto (pc := 72) a dX7_lowest_72 (tgt := 4) (by decide) ?_
        refine a_sub (ls1 := [(0, Value.ref (ad 161)), (1, vI p1), (2, vI x1), (3, vI (x2 + 1))]) [3, 4, 1, 0] rfl ?_
        exact hag4 x1 (x2 + 1) h
      · replace h := h.2.2 hq
        clear hq
        refine a_iload_n (pc := 45) a 3 dX7_lowest_45 rfl rfl ?_
        refine a_iconst (pc := 46) a dX7_lowest_46 ?_
        refine a_icmp_eq (pc := 47) a h.1 ⟨by decide, by decide⟩ dX7_lowest_47 (tgt := 63) (by decide) (fun hq => ?_) (fun hq => ?_)
        · replace h := h.2.1 hq
          clear hq
          refine a_iload_n (pc := 63) a 4 dX7_lowest_63 rfl rfl ?_
          refine a_goto (pc := 64) a dX7_lowest_64 (tgt := 68) (by decide) ?_
          refine a_istore_n (pc := 68) a (ls1 := [(2, vI x2), (4, vI x7), (0, Value.ref (ad 161)), (1, vI p1), (3, vI x2)]) dX7_lowest_68 rfl (by decide) rfl ?_
          refine a_iinc (pc := 69) a (ls1 := [(3, vI (x2 + 1)), (2, vI x2), (4, vI x7), (0, Value.ref (ad 161)), (1, vI p1)]) 4 dX7_lowest_69 rfl (by decide) rfl ?_
          refine a_goto (pc := 72) a dX7_lowest_72 (tgt := 4) (by decide) ?_
          refine a_sub (ls1 := [(0, Value.ref (ad 161)), (1, vI p1), (2, vI x2), (3, vI (x2 + 1))]) [3, 4, 1, 0] rfl ?_
          exact hag4 x2 (x2 + 1) h
        · replace h := h.2.2 hq
          clear hq
          refine a_aload_n (pc := 50) a 1 dX7_lowest_50 rfl rfl ?_
          refine a_iload_n (pc := 51) a 4 dX7_lowest_51 rfl rfl ?_
          refine a_cvi (pc := 52) a (As := [vI x2]) (rest := []) tb vc7 (fun sz => c_X7_rankOf hinj hl0  h sz) (cwV 1 hts (gl_V (GL_13 _ (by decide +kernel)) (GL_13 _ (by decide +kernel)) (GL_13 _ (by decide +kernel)) (GL_1 _ (by decide +kernel)) (GL_14 _ (by decide +kernel))) rfl rfl rfl (by decide +kernel) ⟨Nat.le_of_ble_eq_true rfl, Nat.le_of_ble_eq_true rfl⟩) rfl rfl (Nat.le_of_ble_eq_true rfl) ⟨Nat.le_of_ble_eq_true rfl, Nat.le_of_ble_eq_true rfl⟩ dX7_lowest_52 ?_
          rintro x8 s9 ⟨hs9, h9⟩
          subst s9
          replace h := h9
          clear h9
          refine a_aload_n (pc := 55) a 1 dX7_lowest_55 rfl rfl ?_
          refine a_iload_n (pc := 56) a 3 dX7_lowest_56 rfl rfl ?_
          refine a_cvi (pc := 57) a (As := [vI x1]) (rest := [vI x8]) tb vc7 (fun sz => c_X7_rankOf hinj hl0  h sz) (cwV 1 hts (gl_V (GL_13 _ (by decide +kernel)) (GL_13 _ (by decide +kernel)) (GL_13 _ (by decide +kernel)) (GL_1 _ (by decide +kernel)) (GL_14 _ (by decide +kernel))) rfl rfl rfl (by decide +kernel) ⟨Nat.le_of_ble_eq_true rfl, Nat.le_of_ble_eq_true rfl⟩) rfl rfl (Nat.le_of_ble_eq_true rfl) ⟨Nat.le_of_ble_eq_true rfl, Nat.le_of_ble_eq_true rfl⟩ dX7_lowest_57 ?_
          rintro x9 s9 ⟨hs9, h9⟩
          subst s9
          replace h := h9
          clear h9
          refine a_icmp_ge (pc := 60) a h.1 h.2.1 dX7_lowest_60 (tgt := 67) (by decide) (fun hq => ?_) (fun hq => ?_)
          · replace h := h.2.2.1 hq
            clear hq
            refine a_iload_n (pc := 67) a 3 dX7_lowest_67 rfl rfl ?_
            refine a_istore_n (pc := 68) a (ls1 := [(2, vI x1), (4, vI x7), (0, Value.ref (ad 161)), (1, vI p1), (3, vI x2)]) dX7_lowest_68 rfl (by decide) rfl ?_
            refine a_iinc (pc := 69) a (ls1 := [(3, vI (x2 + 1)), (2, vI x1), (4, vI x7), (0, Value.ref (ad 161)), (1, vI p1)]) 4 dX7_lowest_69 rfl (by decide) rfl ?_
            refine a_goto (pc := 72) a dX7_lowest_72 (tgt := 4) (by decide) ?_
            refine a_sub (ls1 := [(0, Value.ref (ad 161)), (1, vI p1), (2, vI x1), (3, vI (x2 + 1))]) [3, 4, 1, 0] rfl ?_
            exact hag4 x1 (x2 + 1) h
          · replace h := h.2.2.2 hq
            clear hq
            refine a_iload_n (pc := 63) a 4 dX7_lowest_63 rfl rfl ?_
            refine a_goto (pc := 64) a dX7_lowest_64 (tgt := 68) (by decide) ?_
            refine a_istore_n (pc := 68) a (ls1 := [(2, vI x2), (4, vI x7), (0, Value.ref (ad 161)), (1, vI p1), (3, vI x2)]) dX7_lowest_68 rfl (by decide) rfl ?_
            refine a_iinc (pc := 69) a (ls1 := [(3, vI (x2 + 1)), (2, vI x2), (4, vI x7), (0, Value.ref (ad 161)), (1, vI p1)]) 4 dX7_lowest_69 rfl (by decide) rfl ?_
            refine a_goto (pc := 72) a dX7_lowest_72 (tgt := 4) (by decide) ?_
            refine a_sub (ls1 := [(0, Value.ref (ad 161)), (1, vI p1), (2, vI x2), (3, vI (x2 + 1))]) [3, 4, 1, 0] rfl ?_
            exact hag4 x2 (x2 + 1) h
    · clear h
      intro jj38 hjj38 h
      refine g_wj0 37 0 0 [(0, Value.ref (ad 161)), (1, vI p1), (2, vI x1), (3, vI x2)] [] h ?_ ?_
      · clear h
        intro  h
        refine a_iconst (pc := 37) a dX7_lowest_37 ?_
        exact hjj38 0 h
      · clear h
        intro jj37 hjj37 h
        refine a_if_eq (pc := 16) a h.1 dX7_lowest_16 (tgt := 37) (by decide) (fun hq => ?_) (fun hq => ?_)
        · replace h := h.2.1 hq
          clear hq
          exact hjj37  h
        · replace h := h.2.2 hq
          clear hq
          refine a_iload_n (pc := 19) a 1 dX7_lowest_19 rfl rfl ?_
          refine a_iconst (pc := 20) a dX7_lowest_20 ?_
          refine g_wj0 33 0 0 [(0, Value.ref (ad 161)), (1, vI p1), (2, vI x1), (3, vI x2)] [] h ?_ ?_
          · clear h
            intro  h
            refine a_iconst (pc := 33) a dX7_lowest_33 ?_
            refine a_goto (pc := 34) a dX7_lowest_34 (tgt := 38) (by decide) ?_
            exact hjj38 1 h
          · clear h
            intro jj33 hjj33 h
            refine a_icmp_eq (pc := 21) a h.1 ⟨by decide, by decide⟩ dX7_lowest_21 (tgt := 33) (by decide) (fun hq => ?_) (fun hq => ?_)
            · replace h := h.2.1 hq
              clear hq
              exact hjj33  h
            · replace h := h.2.2 hq
              clear hq
              refine a_aload_n (pc := 24) a 0 dX7_lowest_24 rfl rfl ?_
              refine a_iload_n (pc := 25) a 3 dX7_lowest_25 rfl rfl ?_
              refine a_cvi (pc := 26) a (As := [vI x2]) (rest := []) tb vc7 (fun sz => c_X7_groupOf hinj hl0  h sz) (cwV 1 hts (gl_V (GL_23 _ (by decide +kernel)) (GL_23 _ (by decide +kernel)) (GL_23 _ (by decide +kernel)) (GL_1 _ (by decide +kernel)) (GL_23 _ (by decide +kernel))) rfl rfl rfl (by decide +kernel) ⟨Nat.le_of_ble_eq_true rfl, Nat.le_of_ble_eq_true rfl⟩) rfl rfl (Nat.le_of_ble_eq_true rfl) ⟨Nat.le_of_ble_eq_true rfl, Nat.le_of_ble_eq_true rfl⟩ dX7_lowest_26 ?_
              rintro x6 s9 ⟨hs9, h9⟩
              subst s9
              replace h := h9
              clear h9
              refine a_iload_n (pc := 29) a 1 dX7_lowest_29 rfl rfl ?_
              refine a_icmp_ne (pc := 30) a h.1 h.2.1 dX7_lowest_30 (tgt := 37) (by decide) (fun hq => ?_) (fun hq => ?_)
              · replace h := h.2.2.1 hq
                clear hq
                exact hjj37  h
              · replace h := h.2.2.2 hq
                clear hq
                exact hjj33  h

set_option maxRecDepth 100000 in
set_option maxHeartbeats 4000000 in
theorem c_X7_addsGroup {l : Launch} {D : va_G} {X : XI} {ad : Nat → Nat} (hinj : adI ad) (hl0 : l.stackTraces = false) {p1 : Int}  {σ : St} {K : St → Prop} (h : f_X7_addsGroup p1 σ K) (sz : Nat) : Met l yX7_addsGroup (WW (.code yX7_addsGroup cX7_addsGroup 6 none)) { frames := 4, cells := 0, slots := 0, locals := 95 } (va_Pc [Value.ref (ad 161), vI p1] (WD D X ad σ sz)) (QV D X ad sz K) 0 0 (AA ad sz) := by
  refine a_start (cc := cX7_addsGroup) (maxL := 6) (ret := none) (own := RX7) [Value.ref (ad 161), vI p1] (by decide) rfl rfl (Nat.le_of_ble_eq_true rfl) hinj hl0 ?_
  intro p e s m below meth c a hr hsz
  subst hsz
  have hts := a.1.2.2.2.2
  have tb : tyc 161 (11, 0) := ⟨by decide, rfl⟩
  have w1 := hts (Cond.fieldLink RX7 7 "SightLegendModel" "s" "[I") (List.mem_cons_of_mem _ (GL_5 _ (by decide +kernel)))
  have w2 : ∀ w ∈ u_ws RX7 TX7 29, w ∈ WW (.code yX7_addsGroup cX7_addsGroup 6 none) := fun w h => List.mem_cons_of_mem _ (inlX7 w h)
  have w3 : tyc 162 (0, 311) := ty_of (d := 1) (t1 := (0, 311)) (by decide +kernel) rfl tb
  have w4 := hts (Cond.fieldLink RX7 50 "SightLegendModel" "waits" "[Z") (List.mem_cons_of_mem _ (GL_5 _ (by decide +kernel)))
  have w5 : tyc 175 (1, 12) := ty_of (d := 14) (t1 := (1, 12)) (by decide +kernel) rfl tb
  unfold f_X7_addsGroup at h
  refine a_sub (ls1 := [(0, Value.ref (ad 161)), (1, vI p1)]) [0, 1] rfl ?_
  refine a_iconst (pc := 0) a dX7_addsGroup_0 ?_
  refine a_istore_n (pc := 1) a (ls1 := [(2, vI 0), (0, Value.ref (ad 161)), (1, vI p1)]) dX7_addsGroup_1 rfl (by decide) rfl ?_
  refine a_iconst (pc := 2) a dX7_addsGroup_2 ?_
  refine a_istore_n (pc := 3) a (ls1 := [(3, vI 0), (2, vI 0), (0, Value.ref (ad 161)), (1, vI p1)]) dX7_addsGroup_3 rfl (by decide) rfl ?_
  refine a_iconst (pc := 4) a dX7_addsGroup_4 ?_
  refine a_istore (pc := 5) a (ls1 := [(4, vI 0), (3, vI 0), (2, vI 0), (0, Value.ref (ad 161)), (1, vI p1)]) dX7_addsGroup_5 (by decide) rfl ?_
  refine a_sub (ls1 := [(0, Value.ref (ad 161)), (1, vI p1), (2, vI 0), (3, vI 0), (4, vI 0)]) [3, 4, 2, 1, 0] rfl ?_
  refine g_wl3 (fun x1 x2 x3 => [(0, Value.ref (ad 161)), (1, vI p1), (2, vI x1), (3, vI x2), (4, vI x3)]) h ?_
  clear h
  intro x1 x2 x3 ag7 hag7 h
  refine a_iload (pc := 7) a 4 dX7_addsGroup_7 rfl ?_
  refine a_bipush (pc := 9) a dX7_addsGroup_9 (by decide) ?_
  refine a_icmp_ge (pc := 11) a h.1 ⟨by decide, by decide⟩ dX7_addsGroup_11 (tgt := 66) (by decide) (fun hq => ?_) (fun hq => ?_)
  · replace h := h.2.1 hq
    clear hq
    refine a_aload_n (pc := 66) a 0 dX7_addsGroup_66 rfl rfl ?_
    refine a_getR (pc := 67) a 0 0 rfl tb vc7 w2 w1 (by decide) (by decide) 1 (q := 162) rfl rfl dX7_addsGroup_67 ?_
    refine a_bipush (pc := 70) a dX7_addsGroup_70 (by decide) ?_
    refine a_iload_n (pc := 72) a 1 dX7_addsGroup_72 rfl rfl ?_
    refine a_iadd (pc := 73) a dX7_addsGroup_73 ?_
    refine a_iald (pc := 74) a w3 (by decide) h.1 dX7_addsGroup_74 ?_
    replace h := h.2
    refine a_iconst (pc := 75) a dX7_addsGroup_75 ?_
    refine g_wj1 94 0 0 (fun x6 => [(0, Value.ref (ad 161)), (1, vI p1), (2, vI x1)]) (fun x6 => [vI x6]) h ?_ ?_
    · clear h
      intro x6 h
      refine a_istore (pc := 94) a (ls1 := [(4, vI x6), (0, Value.ref (ad 161)), (1, vI p1), (2, vI x1)]) dX7_addsGroup_94 (by decide) rfl ?_
      refine a_iload_n (pc := 96) a 3 dX7_addsGroup_96 rfl rfl ?_
      refine a_iconst (pc := 97) a dX7_addsGroup_97 ?_
      refine g_wj0s 119 0 0 [(0, Value.ref (ad 161)), (1, vI p1), (4, vI x6)] [] h ?_ ?_
      · clear h
        intro s11 h
        refine a_aload_n (pc := 119) a 0 dX7_addsGroup_119 rfl rfl ?_
        refine a_iload_n (pc := 120) a 1 dX7_addsGroup_120 rfl rfl ?_
        refine a_cvi (pc := 121) a (As := [vI p1]) (rest := []) tb vc7 (fun sz => c_X7_lowest hinj hl0  h sz) (cwV 1 hts (gl_V (GL_23 _ (by decide +kernel)) (GL_23 _ (by decide +kernel)) (GL_23 _ (by decide +kernel)) (GL_1 _ (by decide +kernel)) (GL_23 _ (by decide +kernel))) rfl rfl rfl (by decide +kernel) ⟨Nat.le_of_ble_eq_true rfl, Nat.le_of_ble_eq_true rfl⟩) rfl rfl (Nat.le_of_ble_eq_true rfl) ⟨Nat.le_of_ble_eq_true rfl, Nat.le_of_ble_eq_true rfl⟩ dX7_addsGroup_121 ?_
        rintro x12 s9 ⟨hs9, h9⟩
        subst s9
        replace h := h9
        clear h9
        refine a_istore (pc := 124) a (ls1 := [(5, vI x12), (0, Value.ref (ad 161)), (1, vI p1), (4, vI x6)]) dX7_addsGroup_124 (by decide) rfl ?_
        refine a_sub (ls1 := [(0, Value.ref (ad 161)), (1, vI p1), (4, vI x6), (5, vI x12)]) [1, 2, 3, 0] rfl ?_
        refine g_wl1s (fun x13 => [(0, Value.ref (ad 161)), (1, vI p1), (4, vI x6), (5, vI x13)]) h ?_
        clear h
        intro x13 s14 ag126 hag126 h
        refine a_iload (pc := 126) a 3 dX7_addsGroup_126 rfl ?_
        refine a_iconst (pc := 128) a dX7_addsGroup_128 ?_
        refine a_icmp_eq (pc := 129) a h.1 ⟨by decide, by decide⟩ dX7_addsGroup_129 (tgt := 161) (by decide) (fun hq => ?_) (fun hq => ?_)
        · replace h := h.2.1 hq
          clear hq
          exact e_v (pc := 161) a hr dX7_addsGroup_161 h
        · replace h := h.2.2 hq
          clear hq
          refine a_aload_n (pc := 132) a 0 dX7_addsGroup_132 rfl rfl ?_
          refine a_getR (pc := 133) a 26 26 rfl tb vc7 w2 w4 (by decide) (by decide) 14 (q := 175) rfl rfl dX7_addsGroup_133 ?_
          refine a_iload (pc := 136) a 3 dX7_addsGroup_136 rfl ?_
          refine a_iconst (pc := 138) a dX7_addsGroup_138 ?_
          refine a_zast (pc := 139) a w5 (by decide) h.1 (by decide) dX7_addsGroup_139 ?_
          replace h := h.2
          refine a_nmS (fun s15 hx => ?_)
          replace h := h s15 hx
          clear hx
          refine a_iload (pc := 140) a 2 dX7_addsGroup_140 rfl ?_
          refine a_if_ne (pc := 142) a h.1 dX7_addsGroup_142 (tgt := 151) (by decide) (fun hq => ?_) (fun hq => ?_)
          · replace h := h.2.1 hq
            clear hq
            refine a_aload_n (pc := 151) a 0 dX7_addsGroup_151 rfl rfl ?_
            refine a_iload_n (pc := 152) a 1 dX7_addsGroup_152 rfl rfl ?_
            refine a_cvi (pc := 153) a (As := [vI p1]) (rest := []) tb vc7 (fun sz => c_X7_lowest hinj hl0  h sz) (cwV 1 hts (gl_V (GL_23 _ (by decide +kernel)) (GL_23 _ (by decide +kernel)) (GL_23 _ (by decide +kernel)) (GL_1 _ (by decide +kernel)) (GL_23 _ (by decide +kernel))) rfl rfl rfl (by decide +kernel) ⟨Nat.le_of_ble_eq_true rfl, Nat.le_of_ble_eq_true rfl⟩) rfl rfl (Nat.le_of_ble_eq_true rfl) ⟨Nat.le_of_ble_eq_true rfl, Nat.le_of_ble_eq_true rfl⟩ dX7_addsGroup_153 ?_
            rintro x16 s9 ⟨hs9, h9⟩
            subst s9
            replace h := h9
            clear h9
            refine a_istore (pc := 156) a (ls1 := [(5, vI x16), (0, Value.ref (ad 161)), (1, vI p1), (4, vI x6)]) dX7_addsGroup_156 (by decide) rfl ?_
            refine a_goto (pc := 158) a dX7_addsGroup_158 (tgt := 126) (by decide) ?_
            refine a_sub (ls1 := [(0, Value.ref (ad 161)), (1, vI p1), (4, vI x6), (5, vI x16)]) [1, 2, 3, 0] rfl ?_
            exact hag126 x16 s15 h
          · replace h := h.2.2 hq
            clear hq
            refine a_aload_n (pc := 145) a 0 dX7_addsGroup_145 rfl rfl ?_
            refine a_iload (pc := 146) a 3 dX7_addsGroup_146 rfl ?_
            refine a_cvv (pc := 148) a (As := [vI x13]) (rest := []) tb vc7 (fun sz => c_X7_addsKind hinj hl0  h sz) (cwV 1 hts (gl_V (GL_23 _ (by decide +kernel)) (GL_23 _ (by decide +kernel)) (GL_23 _ (by decide +kernel)) (GL_1 _ (by decide +kernel)) (GL_23 _ (by decide +kernel))) rfl rfl rfl (by decide +kernel) ⟨Nat.le_of_ble_eq_true rfl, Nat.le_of_ble_eq_true rfl⟩) rfl rfl (Nat.le_of_ble_eq_true rfl) ⟨Nat.le_of_ble_eq_true rfl, Nat.le_of_ble_eq_true rfl⟩ dX7_addsGroup_148 ?_
            clear h
            intro s17 h
            refine a_aload_n (pc := 151) a 0 dX7_addsGroup_151 rfl rfl ?_
            refine a_iload_n (pc := 152) a 1 dX7_addsGroup_152 rfl rfl ?_
            refine a_cvi (pc := 153) a (As := [vI p1]) (rest := []) tb vc7 (fun sz => c_X7_lowest hinj hl0  h sz) (cwV 1 hts (gl_V (GL_23 _ (by decide +kernel)) (GL_23 _ (by decide +kernel)) (GL_23 _ (by decide +kernel)) (GL_1 _ (by decide +kernel)) (GL_23 _ (by decide +kernel))) rfl rfl rfl (by decide +kernel) ⟨Nat.le_of_ble_eq_true rfl, Nat.le_of_ble_eq_true rfl⟩) rfl rfl (Nat.le_of_ble_eq_true rfl) ⟨Nat.le_of_ble_eq_true rfl, Nat.le_of_ble_eq_true rfl⟩ dX7_addsGroup_153 ?_
            rintro x18 s9 ⟨hs9, h9⟩
            subst s9
            replace h := h9
            clear h9
            refine a_istore (pc := 156) a (ls1 := [(5, vI x18), (0, Value.ref (ad 161)), (1, vI p1), (4, vI x6)]) dX7_addsGroup_156 (by decide) rfl ?_
            refine a_goto (pc := 158) a dX7_addsGroup_158 (tgt := 126) (by decide) ?_
            refine a_sub (ls1 := [(0, Value.ref (ad 161)), (1, vI p1), (4, vI x6), (5, vI x18)]) [1, 2, 3, 0] rfl ?_
            exact hag126 x18 s17 h
      · clear h
        intro jj119 hjj119 h
        refine a_icmp_le (pc := 98) a h.1 ⟨by decide, by decide⟩ dX7_addsGroup_98 (tgt := 119) (by decide) (fun hq => ?_) (fun hq => ?_)
        · replace h := h.2.1 hq
          clear hq
          refine a_sub (ls1 := [(0, Value.ref (ad 161)), (1, vI p1), (4, vI x6)]) [1, 2, 0] rfl ?_
          exact hjj119 σ h
        · replace h := h.2.2 hq
          clear hq
          refine a_aload_n (pc := 101) a 1 dX7_addsGroup_101 rfl rfl ?_
          refine a_iload (pc := 102) a 0 dX7_addsGroup_102 rfl ?_
          refine g_wj1 112 0 0 (fun x9 => [(0, Value.ref (ad 161)), (1, vI p1), (4, vI x6)]) (fun x9 => [vI x9, Value.ref (ad 161)]) h ?_ ?_
          · clear h
            intro x9 h
            refine a_iconst (pc := 112) a dX7_addsGroup_112 ?_
            refine a_iload_n (pc := 113) a 1 dX7_addsGroup_113 rfl rfl ?_
            refine a_iconst (pc := 114) a dX7_addsGroup_114 ?_
            refine a_iconst (pc := 115) a dX7_addsGroup_115 ?_
            refine a_cvv (pc := 116) a (As := [vI x9, vI (-1), vI p1, vI (-1), vI (-1)]) (rest := []) tb vc7 (fun sz => c_X7_adds hinj hl0  h sz) (cwV 5 hts (gl_V (GL_24 _ (by decide +kernel)) (GL_24 _ (by decide +kernel)) (GL_24 _ (by decide +kernel)) (GL_1 _ (by decide +kernel)) (GL_24 _ (by decide +kernel))) rfl rfl rfl (by decide +kernel) ⟨Nat.le_of_ble_eq_true rfl, Nat.le_of_ble_eq_true rfl⟩) rfl rfl (Nat.le_of_ble_eq_true rfl) ⟨Nat.le_of_ble_eq_true rfl, Nat.le_of_ble_eq_true rfl⟩ dX7_addsGroup_116 ?_
            clear h
            intro s10 h
            exact hjj119 s10 h
          · clear h
            intro jj112 hjj112 h
            refine a_if_eq (pc := 104) a h.1 dX7_addsGroup_104 (tgt := 111) (by decide) (fun hq => ?_) (fun hq => ?_)
            · replace h := h.2.1 hq
              clear hq
              refine a_iconst (pc := 111) a dX7_addsGroup_111 ?_
              refine a_sub (ls1 := [(0, Value.ref (ad 161)), (1, vI p1), (4, vI x6)]) [1, 2, 0] rfl ?_
              exact hjj112 1 h
            · replace h := h.2.2 hq
              clear hq
              refine a_iconst (pc := 107) a dX7_addsGroup_107 ?_
              refine a_goto (pc := 108) a dX7_addsGroup_108 (tgt := 112) (by decide) ?_
              refine a_sub (ls1 := [(0, Value.ref (ad 161)), (1, vI p1), (4, vI x6)]) [1, 2, 0] rfl ?_
              exact hjj112 2 h
    · clear h
      intro jj94 hjj94 h
      refine g_wj0 93 0 0 [(0, Value.ref (ad 161)), (1, vI p1), (2, vI x1)] [] h ?_ ?_
      · clear h
        intro  h
        refine a_iconst (pc := 93) a dX7_addsGroup_93 ?_
        exact hjj94 0 h
      · clear h
        intro jj93 hjj93 h
        refine a_icmp_ne (pc := 76) a h.1 ⟨by decide, by decide⟩ dX7_addsGroup_76 (tgt := 93) (by decide) (fun hq => ?_) (fun hq => ?_)
        · replace h := h.2.1 hq
          clear hq
          refine a_sub (ls1 := [(0, Value.ref (ad 161)), (1, vI p1), (2, vI x1)]) [0, 1, 2] rfl ?_
          exact hjj93  h
        · replace h := h.2.2 hq
          clear hq
          refine a_iload_n (pc := 79) a 2 dX7_addsGroup_79 rfl rfl ?_
          refine a_iconst (pc := 80) a dX7_addsGroup_80 ?_
          refine a_icmp_le (pc := 81) a h.1 ⟨by decide, by decide⟩ dX7_addsGroup_81 (tgt := 93) (by decide) (fun hq => ?_) (fun hq => ?_)
          · replace h := h.2.1 hq
            clear hq
            refine a_sub (ls1 := [(0, Value.ref (ad 161)), (1, vI p1), (2, vI x1)]) [0, 1, 2] rfl ?_
            exact hjj93  h
          · replace h := h.2.2 hq
            clear hq
            refine a_iload_n (pc := 84) a 2 dX7_addsGroup_84 rfl rfl ?_
            refine a_iload_n (pc := 85) a 3 dX7_addsGroup_85 rfl rfl ?_
            refine a_icmp_ne (pc := 86) a h.1 h.2.1 dX7_addsGroup_86 (tgt := 93) (by decide) (fun hq => ?_) (fun hq => ?_)
            · replace h := h.2.2.1 hq
              clear hq
              refine a_sub (ls1 := [(0, Value.ref (ad 161)), (1, vI p1), (2, vI x1)]) [0, 1, 2] rfl ?_
              exact hjj93  h
            · replace h := h.2.2.2 hq
              clear hq
              refine a_iconst (pc := 89) a dX7_addsGroup_89 ?_
              refine a_goto (pc := 90) a dX7_addsGroup_90 (tgt := 94) (by decide) ?_
              refine a_sub (ls1 := [(0, Value.ref (ad 161)), (1, vI p1), (2, vI x1)]) [0, 1, 2] rfl ?_
              exact hjj94 1 h
  · replace h := h.2.2 hq
    clear hq
    refine a_iload_n (pc := 14) a 3 dX7_addsGroup_14 rfl rfl ?_
    refine a_aload_n (pc := 15) a 0 dX7_addsGroup_15 rfl rfl ?_
    refine a_iload (pc := 16) a 4 dX7_addsGroup_16 rfl ?_
    refine a_cvi (pc := 18) a (As := [vI x3]) (rest := [vI x2]) tb vc7 (fun sz => c_X7_groupOf hinj hl0  h sz) (cwV 1 hts (gl_V (GL_23 _ (by decide +kernel)) (GL_23 _ (by decide +kernel)) (GL_23 _ (by decide +kernel)) (GL_1 _ (by decide +kernel)) (GL_23 _ (by decide +kernel))) rfl rfl rfl (by decide +kernel) ⟨Nat.le_of_ble_eq_true rfl, Nat.le_of_ble_eq_true rfl⟩) rfl rfl (Nat.le_of_ble_eq_true rfl) ⟨Nat.le_of_ble_eq_true rfl, Nat.le_of_ble_eq_true rfl⟩ dX7_addsGroup_18 ?_
    rintro x19 s9 ⟨hs9, h9⟩
    subst s9
    replace h := h9
    clear h9
    refine a_iload_n (pc := 21) a 1 dX7_addsGroup_21 rfl rfl ?_
    refine g_wj1 30 0 0 (fun x21 => [(0, Value.ref (ad 161)), (1, vI p1), (2, vI x1), (4, vI x3)]) (fun x21 => [vI x21, vI x2]) h ?_ ?_
    · clear h
      intro x21 h
      refine a_iadd (pc := 30) a dX7_addsGroup_30 ?_
      refine a_nm (fun x22 hx => ?_)
      replace h := h x22 hx
      clear hx
      refine a_istore_n (pc := 31) a (ls1 := [(3, vI x22), (0, Value.ref (ad 161)), (1, vI p1), (2, vI x1), (4, vI x3)]) dX7_addsGroup_31 rfl (by decide) rfl ?_
      refine a_iload_n (pc := 32) a 3 dX7_addsGroup_32 rfl rfl ?_
      refine a_aload_n (pc := 33) a 1 dX7_addsGroup_33 rfl rfl ?_
      refine a_iload (pc := 34) a 4 dX7_addsGroup_34 rfl ?_
      refine a_cvi (pc := 36) a (As := [vI x3]) (rest := [vI x1]) tb vc7 (fun sz => c_X7_groupOf hinj hl0  h sz) (cwV 1 hts (gl_V (GL_23 _ (by decide +kernel)) (GL_23 _ (by decide +kernel)) (GL_23 _ (by decide +kernel)) (GL_1 _ (by decide +kernel)) (GL_23 _ (by decide +kernel))) rfl rfl rfl (by decide +kernel) ⟨Nat.le_of_ble_eq_true rfl, Nat.le_of_ble_eq_true rfl⟩) rfl rfl (Nat.le_of_ble_eq_true rfl) ⟨Nat.le_of_ble_eq_true rfl, Nat.le_of_ble_eq_true rfl⟩ dX7_addsGroup_36 ?_
      rintro x23 s9 ⟨hs9, h9⟩
      subst s9
      replace h := h9
      clear h9
      refine a_iload_n (pc := 39) a 2 dX7_addsGroup_39 rfl rfl ?_
      refine a_icmp_ne (pc := 40) a h.1 h.2.1 dX7_addsGroup_40 (tgt := 57) (by decide) (fun hq => ?_) (fun hq => ?_)
      · replace h := h.2.2.1 hq
        clear hq
        refine a_iconst (pc := 57) a dX7_addsGroup_57 ?_
        refine a_iadd (pc := 58) a dX7_addsGroup_58 ?_
        refine a_nm (fun x24 hx => ?_)
        replace h := h x24 hx
        clear hx
        refine a_istore_n (pc := 59) a (ls1 := [(2, vI x24), (3, vI x22), (0, Value.ref (ad 161)), (1, vI p1), (4, vI x3)]) dX7_addsGroup_59 rfl (by decide) rfl ?_
        refine a_iinc (pc := 60) a (ls1 := [(4, vI (x3 + 1)), (2, vI x24), (3, vI x22), (0, Value.ref (ad 161)), (1, vI p1)]) 4 dX7_addsGroup_60 rfl (by decide) rfl ?_
        refine a_goto (pc := 63) a dX7_addsGroup_63 (tgt := 7) (by decide) ?_
        refine a_sub (ls1 := [(0, Value.ref (ad 161)), (1, vI p1), (2, vI x24), (3, vI x22), (4, vI (x3 + 1))]) [3, 4, 1, 2, 0] rfl ?_
        exact hag7 x24 x22 (x3 + 1) h
      · replace h := h.2.2.2 hq
        clear hq
        refine a_aload_n (pc := 43) a 1 dX7_addsGroup_43 rfl rfl ?_
        refine a_getR (pc := 44) a 26 26 rfl tb vc7 w2 w4 (by decide) (by decide) 14 (q := 175) rfl rfl dX7_addsGroup_44 ?_
        refine a_iload (pc := 47) a 4 dX7_addsGroup_47 rfl ?_
        refine a_zald (pc := 49) a w5 (by decide) h.1 dX7_addsGroup_49 ?_
        replace h := h.2
        refine a_if_eq (pc := 50) a h.1 dX7_addsGroup_50 (tgt := 57) (by decide) (fun hq => ?_) (fun hq => ?_)
        · replace h := h.2.1 hq
          clear hq
          refine a_iconst (pc := 57) a dX7_addsGroup_57 ?_
          refine a_iadd (pc := 58) a dX7_addsGroup_58 ?_
          refine a_nm (fun x25 hx => ?_)
          replace h := h x25 hx
          clear hx
          refine a_istore_n (pc := 59) a (ls1 := [(2, vI x25), (3, vI x22), (0, Value.ref (ad 161)), (1, vI p1), (4, vI x3)]) dX7_addsGroup_59 rfl (by decide) rfl ?_
          refine a_iinc (pc := 60) a (ls1 := [(4, vI (x3 + 1)), (2, vI x25), (3, vI x22), (0, Value.ref (ad 161)), (1, vI p1)]) 4 dX7_addsGroup_60 rfl (by decide) rfl ?_
          refine a_goto (pc := 63) a dX7_addsGroup_63 (tgt := 7) (by decide) ?_
          refine a_sub (ls1 := [(0, Value.ref (ad 161)), (1, vI p1), (2, vI x25), (3, vI x22), (4, vI (x3 + 1))]) [3, 4, 1, 2, 0] rfl ?_
          exact hag7 x25 x22 (x3 + 1) h
        · replace h := h.2.2 hq
          clear hq
          refine a_iconst (pc := 53) a dX7_addsGroup_53 ?_
          refine a_goto (pc := 54) a dX7_addsGroup_54 (tgt := 58) (by decide) ?_
          refine a_iadd (pc := 58) a dX7_addsGroup_58 ?_
          refine a_nm (fun x26 hx => ?_)
          replace h := h x26 hx
          clear hx
          refine a_istore_n (pc := 59) a (ls1 := [(2, vI x26), (3, vI x22), (0, Value.ref (ad 161)), (1, vI p1), (4, vI x3)]) dX7_addsGroup_59 rfl (by decide) rfl ?_
          refine a_iinc (pc := 60) a (ls1 := [(4, vI (x3 + 1)), (2, vI x26), (3, vI x22), (0, Value.ref (ad 161)), (1, vI p1)]) 4 dX7_addsGroup_60 rfl (by decide) rfl ?_
          refine a_goto (pc := 63) a dX7_addsGroup_63 (tgt := 7) (by decide) ?_
          refine a_sub (ls1 := [(0, Value.ref (ad 161)), (1, vI p1), (2, vI x26), (3, vI x22), (4, vI (x3 + 1))]) [3, 4, 1, 2, 0] rfl ?_
          exact hag7 x26 x22 (x3 + 1) h
    · clear h
      intro jj30 hjj30 h
      refine a_icmp_ne (pc := 22) a h.1 h.2.1 dX7_addsGroup_22 (tgt := 29) (by decide) (fun hq => ?_) (fun hq => ?_)
      · replace h := h.2.2.1 hq
        clear hq
        refine a_iconst (pc := 29) a dX7_addsGroup_29 ?_
        refine a_sub (ls1 := [(0, Value.ref (ad 161)), (1, vI p1), (2, vI x1), (4, vI x3)]) [0, 1, 2, 4] rfl ?_
        exact hjj30 0 h
      · replace h := h.2.2.2 hq
        clear hq
        refine a_iconst (pc := 25) a dX7_addsGroup_25 ?_
        refine a_goto (pc := 26) a dX7_addsGroup_26 (tgt := 30) (by decide) ?_
        refine a_sub (ls1 := [(0, Value.ref (ad 161)), (1, vI p1), (2, vI x1), (4, vI x3)]) [0, 1, 2, 4] rfl ?_
        exact hjj30 1 h

set_option maxRecDepth 100000 in
set_option maxHeartbeats 4000000 in
theorem c_X7_listsLines {l : Launch} {D : va_G} {X : XI} {ad : Nat → Nat} (hinj : adI ad) (hl0 : l.stackTraces = false)   {σ : St} {K : St → Prop} (h : f_X7_listsLines σ K) (sz : Nat) : Met l yX7_listsLines (WW (.code yX7_listsLines cX7_listsLines 2 none)) { frames := 5, cells := 0, slots := 0, locals := 120 } (va_Pc [Value.ref (ad 161)] (WD D X ad σ sz)) (QV D X ad sz K) 0 0 (AA ad sz) := by
  refine a_start (cc := cX7_listsLines) (maxL := 2) (ret := none) (own := RX7) [Value.ref (ad 161)] (by decide) rfl rfl (Nat.le_of_ble_eq_true rfl) hinj hl0 ?_
  intro p e s m below meth c a hr hsz
  subst hsz
  have hts := a.1.2.2.2.2
  have tb : tyc 161 (11, 0) := ⟨by decide, rfl⟩
  have w1 := hts (Cond.fieldLink RX7 83 "SightLegendModel" "lines" "I") (List.mem_cons_of_mem _ (GL_22 _ (by decide +kernel)))
  have w2 : ∀ w ∈ u_ws RX7 TX7 29, w ∈ WW (.code yX7_listsLines cX7_listsLines 2 none) := fun w h => List.mem_cons_of_mem _ (inlX7 w h)
  have w3 := hts (Cond.fieldLink RX7 50 "SightLegendModel" "waits" "[Z") (List.mem_cons_of_mem _ (GL_5 _ (by decide +kernel)))
  have w4 : tyc 175 (1, 12) := ty_of (d := 14) (t1 := (1, 12)) (by decide +kernel) rfl tb
  unfold f_X7_listsLines at h
  refine a_sub (ls1 := [(0, Value.ref (ad 161))]) [0] rfl ?_
  refine a_aload_n (pc := 0) a 0 dX7_listsLines_0 rfl rfl ?_
  refine a_iconst (pc := 1) a dX7_listsLines_1 ?_
  refine a_putI (pc := 2) a 13 13 rfl tb vc7 w2 w1 (by decide) (by decide) tyX7 tyX7_ok nmX7 rfl rfl (by decide +kernel) dX7_listsLines_2 ?_
  refine a_nmS (fun s1 hx => ?_)
  replace h := h s1 hx
  clear hx
  refine a_iconst (pc := 5) a dX7_listsLines_5 ?_
  refine a_istore_n (pc := 6) a (ls1 := [(1, vI 0), (0, Value.ref (ad 161))]) dX7_listsLines_6 rfl (by decide) rfl ?_
  refine a_sub (ls1 := [(0, Value.ref (ad 161)), (1, vI 0)]) [1, 0] rfl ?_
  refine g_wl1s (fun x2 => [(0, Value.ref (ad 161)), (1, vI x2)]) h ?_
  clear h
  intro x2 s3 ag7 hag7 h
  refine a_iload_n (pc := 7) a 1 dX7_listsLines_7 rfl rfl ?_
  refine a_bipush (pc := 8) a dX7_listsLines_8 (by decide) ?_
  refine a_icmp_ge (pc := 10) a h.1 ⟨by decide, by decide⟩ dX7_listsLines_10 (tgt := 30) (by decide) (fun hq => ?_) (fun hq => ?_)
  · replace h := h.2.1 hq
    clear hq
    refine a_aload_n (pc := 30) a 0 dX7_listsLines_30 rfl rfl ?_
    refine a_iconst (pc := 31) a dX7_listsLines_31 ?_
    refine a_cvi (pc := 32) a (As := [vI (-1)]) (rest := []) tb vc7 (fun sz => c_X7_lowest hinj hl0  h sz) (cwV 1 hts (gl_V (GL_23 _ (by decide +kernel)) (GL_23 _ (by decide +kernel)) (GL_23 _ (by decide +kernel)) (GL_1 _ (by decide +kernel)) (GL_23 _ (by decide +kernel))) rfl rfl rfl (by decide +kernel) ⟨Nat.le_of_ble_eq_true rfl, Nat.le_of_ble_eq_true rfl⟩) rfl rfl (Nat.le_of_ble_eq_true rfl) ⟨Nat.le_of_ble_eq_true rfl, Nat.le_of_ble_eq_true rfl⟩ dX7_listsLines_32 ?_
    rintro x4 s9 ⟨hs9, h9⟩
    subst s9
    replace h := h9
    clear h9
    refine a_istore_n (pc := 35) a (ls1 := [(1, vI x4), (0, Value.ref (ad 161))]) dX7_listsLines_35 rfl (by decide) rfl ?_
    refine a_sub (ls1 := [(0, Value.ref (ad 161)), (1, vI x4)]) [1, 0] rfl ?_
    refine g_wl1s (fun x5 => [(0, Value.ref (ad 161)), (1, vI x5)]) h ?_
    clear h
    intro x5 s6 ag36 hag36 h
    refine a_iload_n (pc := 36) a 1 dX7_listsLines_36 rfl rfl ?_
    refine a_iconst (pc := 37) a dX7_listsLines_37 ?_
    refine a_icmp_eq (pc := 38) a h.1 ⟨by decide, by decide⟩ dX7_listsLines_38 (tgt := 83) (by decide) (fun hq => ?_) (fun hq => ?_)
    · replace h := h.2.1 hq
      clear hq
      exact e_v (pc := 83) a hr dX7_listsLines_83 h
    · replace h := h.2.2 hq
      clear hq
      refine a_aload_n (pc := 41) a 0 dX7_listsLines_41 rfl rfl ?_
      refine a_iload_n (pc := 42) a 1 dX7_listsLines_42 rfl rfl ?_
      refine a_cvi (pc := 43) a (As := [vI x5]) (rest := []) tb vc7 (fun sz => c_X7_groupOf hinj hl0  h sz) (cwV 1 hts (gl_V (GL_23 _ (by decide +kernel)) (GL_23 _ (by decide +kernel)) (GL_23 _ (by decide +kernel)) (GL_1 _ (by decide +kernel)) (GL_23 _ (by decide +kernel))) rfl rfl rfl (by decide +kernel) ⟨Nat.le_of_ble_eq_true rfl, Nat.le_of_ble_eq_true rfl⟩) rfl rfl (Nat.le_of_ble_eq_true rfl) ⟨Nat.le_of_ble_eq_true rfl, Nat.le_of_ble_eq_true rfl⟩ dX7_listsLines_43 ?_
      rintro x7 s9 ⟨hs9, h9⟩
      subst s9
      replace h := h9
      clear h9
      refine a_iconst (pc := 46) a dX7_listsLines_46 ?_
      refine a_icmp_ne (pc := 47) a h.1 ⟨by decide, by decide⟩ dX7_listsLines_47 (tgt := 65) (by decide) (fun hq => ?_) (fun hq => ?_)
      · replace h := h.2.1 hq
        clear hq
        refine a_aload_n (pc := 65) a 0 dX7_listsLines_65 rfl rfl ?_
        refine a_aload_n (pc := 66) a 0 dX7_listsLines_66 rfl rfl ?_
        refine a_iload_n (pc := 67) a 1 dX7_listsLines_67 rfl rfl ?_
        refine a_cvi (pc := 68) a (As := [vI x5]) (rest := [Value.ref (ad 161)]) tb vc7 (fun sz => c_X7_groupOf hinj hl0  h sz) (cwV 1 hts (gl_V (GL_23 _ (by decide +kernel)) (GL_23 _ (by decide +kernel)) (GL_23 _ (by decide +kernel)) (GL_1 _ (by decide +kernel)) (GL_23 _ (by decide +kernel))) rfl rfl rfl (by decide +kernel) ⟨Nat.le_of_ble_eq_true rfl, Nat.le_of_ble_eq_true rfl⟩) rfl rfl (Nat.le_of_ble_eq_true rfl) ⟨Nat.le_of_ble_eq_true rfl, Nat.le_of_ble_eq_true rfl⟩ dX7_listsLines_68 ?_
        rintro x8 s9 ⟨hs9, h9⟩
        subst s9
        replace h := h9
        clear h9
        refine a_cvv (pc := 71) a (As := [vI x8]) (rest := []) tb vc7 (fun sz => c_X7_addsGroup hinj hl0  h sz) (cwV 1 hts (gl_V (GL_24 _ (by decide +kernel)) (GL_24 _ (by decide +kernel)) (GL_24 _ (by decide +kernel)) (GL_1 _ (by decide +kernel)) (GL_24 _ (by decide +kernel))) rfl rfl rfl (by decide +kernel) ⟨Nat.le_of_ble_eq_true rfl, Nat.le_of_ble_eq_true rfl⟩) rfl rfl (Nat.le_of_ble_eq_true rfl) ⟨Nat.le_of_ble_eq_true rfl, Nat.le_of_ble_eq_true rfl⟩ dX7_listsLines_71 ?_
        clear h
        intro s9 h
        refine a_aload_n (pc := 74) a 0 dX7_listsLines_74 rfl rfl ?_
        refine a_iconst (pc := 75) a dX7_listsLines_75 ?_
        refine a_cvi (pc := 76) a (As := [vI (-1)]) (rest := []) tb vc7 (fun sz => c_X7_lowest hinj hl0  h sz) (cwV 1 hts (gl_V (GL_23 _ (by decide +kernel)) (GL_23 _ (by decide +kernel)) (GL_23 _ (by decide +kernel)) (GL_1 _ (by decide +kernel)) (GL_23 _ (by decide +kernel))) rfl rfl rfl (by decide +kernel) ⟨Nat.le_of_ble_eq_true rfl, Nat.le_of_ble_eq_true rfl⟩) rfl rfl (Nat.le_of_ble_eq_true rfl) ⟨Nat.le_of_ble_eq_true rfl, Nat.le_of_ble_eq_true rfl⟩ dX7_listsLines_76 ?_
        rintro x10 s9 ⟨hs9, h9⟩
        subst s9
        replace h := h9
        clear h9
        refine a_istore_n (pc := 79) a (ls1 := [(1, vI x10), (0, Value.ref (ad 161))]) dX7_listsLines_79 rfl (by decide) rfl ?_
        refine a_goto (pc := 80) a dX7_listsLines_80 (tgt := 36) (by decide) ?_
        refine a_sub (ls1 := [(0, Value.ref (ad 161)), (1, vI x10)]) [1, 0] rfl ?_
        exact hag36 x10 s9 h
      · replace h := h.2.2 hq
        clear hq
        refine a_aload_n (pc := 50) a 0 dX7_listsLines_50 rfl rfl ?_
        refine a_getR (pc := 51) a 26 26 rfl tb vc7 w2 w3 (by decide) (by decide) 14 (q := 175) rfl rfl dX7_listsLines_51 ?_
        refine a_iload_n (pc := 54) a 1 dX7_listsLines_54 rfl rfl ?_
        refine a_iconst (pc := 55) a dX7_listsLines_55 ?_
        refine a_zast (pc := 56) a w4 (by decide) h.1 (by decide) dX7_listsLines_56 ?_
        replace h := h.2
        refine a_nmS (fun s11 hx => ?_)
        replace h := h s11 hx
        clear hx
        refine a_aload_n (pc := 57) a 0 dX7_listsLines_57 rfl rfl ?_
        refine a_iload_n (pc := 58) a 1 dX7_listsLines_58 rfl rfl ?_
        refine a_cvv (pc := 59) a (As := [vI x5]) (rest := []) tb vc7 (fun sz => c_X7_addsKind hinj hl0  h sz) (cwV 1 hts (gl_V (GL_23 _ (by decide +kernel)) (GL_23 _ (by decide +kernel)) (GL_23 _ (by decide +kernel)) (GL_1 _ (by decide +kernel)) (GL_23 _ (by decide +kernel))) rfl rfl rfl (by decide +kernel) ⟨Nat.le_of_ble_eq_true rfl, Nat.le_of_ble_eq_true rfl⟩) rfl rfl (Nat.le_of_ble_eq_true rfl) ⟨Nat.le_of_ble_eq_true rfl, Nat.le_of_ble_eq_true rfl⟩ dX7_listsLines_59 ?_
        clear h
        intro s12 h
        refine a_goto (pc := 62) a dX7_listsLines_62 (tgt := 74) (by decide) ?_
        refine a_aload_n (pc := 74) a 0 dX7_listsLines_74 rfl rfl ?_
        refine a_iconst (pc := 75) a dX7_listsLines_75 ?_
        refine a_cvi (pc := 76) a (As := [vI (-1)]) (rest := []) tb vc7 (fun sz => c_X7_lowest hinj hl0  h sz) (cwV 1 hts (gl_V (GL_23 _ (by decide +kernel)) (GL_23 _ (by decide +kernel)) (GL_23 _ (by decide +kernel)) (GL_1 _ (by decide +kernel)) (GL_23 _ (by decide +kernel))) rfl rfl rfl (by decide +kernel) ⟨Nat.le_of_ble_eq_true rfl, Nat.le_of_ble_eq_true rfl⟩) rfl rfl (Nat.le_of_ble_eq_true rfl) ⟨Nat.le_of_ble_eq_true rfl, Nat.le_of_ble_eq_true rfl⟩ dX7_listsLines_76 ?_
        rintro x13 s9 ⟨hs9, h9⟩
        subst s9
        replace h := h9
        clear h9
        refine a_istore_n (pc := 79) a (ls1 := [(1, vI x13), (0, Value.ref (ad 161))]) dX7_listsLines_79 rfl (by decide) rfl ?_
        refine a_goto (pc := 80) a dX7_listsLines_80 (tgt := 36) (by decide) ?_
        refine a_sub (ls1 := [(0, Value.ref (ad 161)), (1, vI x13)]) [1, 0] rfl ?_
        exact hag36 x13 s12 h
  · replace h := h.2.2 hq
    clear hq
    refine a_aload_n (pc := 13) a 0 dX7_listsLines_13 rfl rfl ?_
    refine a_getR (pc := 14) a 26 26 rfl tb vc7 w2 w3 (by decide) (by decide) 14 (q := 175) rfl rfl dX7_listsLines_14 ?_
    refine a_iload_n (pc := 17) a 1 dX7_listsLines_17 rfl rfl ?_
    refine a_aload_n (pc := 18) a 0 dX7_listsLines_18 rfl rfl ?_
    refine a_iload_n (pc := 19) a 1 dX7_listsLines_19 rfl rfl ?_
    refine a_cvi (pc := 20) a (As := [vI x2]) (rest := [vI x2, Value.ref (ad 175)]) tb vc7 (fun sz => c_X7_isInSight hinj hl0  h sz) (cwV 1 hts (gl_V (GL_23 _ (by decide +kernel)) (GL_23 _ (by decide +kernel)) (GL_23 _ (by decide +kernel)) (GL_1 _ (by decide +kernel)) (GL_23 _ (by decide +kernel))) rfl rfl rfl (by decide +kernel) ⟨Nat.le_of_ble_eq_true rfl, Nat.le_of_ble_eq_true rfl⟩) rfl rfl (Nat.le_of_ble_eq_true rfl) ⟨Nat.le_of_ble_eq_true rfl, Nat.le_of_ble_eq_true rfl⟩ dX7_listsLines_20 ?_
    rintro x14 s9 ⟨hs9, h9⟩
    subst s9
    replace h := h9
    clear h9
    refine a_zast (pc := 23) a w4 (by decide) h.1 h.2.1 dX7_listsLines_23 ?_
    replace h := h.2.2
    refine a_nmS (fun s15 hx => ?_)
    replace h := h s15 hx
    clear hx
    refine a_iinc (pc := 24) a (ls1 := [(1, vI (x2 + 1)), (0, Value.ref (ad 161))]) 1 dX7_listsLines_24 rfl (by decide) rfl ?_
    refine a_goto (pc := 27) a dX7_listsLines_27 (tgt := 7) (by decide) ?_
    refine a_sub (ls1 := [(0, Value.ref (ad 161)), (1, vI (x2 + 1))]) [1, 0] rfl ?_
    exact hag7 (x2 + 1) s15 h

set_option maxRecDepth 100000 in
set_option maxHeartbeats 4000000 in
theorem c_X7_isCovered {l : Launch} {D : va_G} {X : XI} {ad : Nat → Nat} (hinj : adI ad) (hl0 : l.stackTraces = false) {p1 : Int}  {σ : St} {K : Int → Prop} (h : f_X7_isCovered p1 σ K) (sz : Nat) : Met l yX7_isCovered (WW (.code yX7_isCovered cX7_isCovered 2 (some .boolean))) { frames := 1, cells := 0, slots := 0, locals := 22 } (va_Pc [Value.ref (ad 161), vI p1] (WD D X ad σ sz)) (QI D X ad sz (fun r τ => τ = σ ∧ K r)) 0 0 (AA ad sz) := by
  refine a_start (cc := cX7_isCovered) (maxL := 2) (ret := (some .boolean)) (own := RX7) [Value.ref (ad 161), vI p1] (by decide) rfl rfl (Nat.le_of_ble_eq_true rfl) hinj hl0 ?_
  intro p e s m below meth c a hr hsz
  subst hsz
  have hts := a.1.2.2.2.2
  have tb : tyc 161 (11, 0) := ⟨by decide, rfl⟩
  have w1 := hts (Cond.fieldLink RX7 116 "SightLegendModel" "corner" "I") (List.mem_cons_of_mem _ (GL_22 _ (by decide +kernel)))
  have w2 : ∀ w ∈ u_ws RX7 TX7 29, w ∈ WW (.code yX7_isCovered cX7_isCovered 2 (some .boolean)) := fun w h => List.mem_cons_of_mem _ (inlX7 w h)
  have w3 := hts (Cond.fieldLink RX7 119 "SightLegendModel" "boxLeft" "I") (List.mem_cons_of_mem _ (GL_22 _ (by decide +kernel)))
  have w4 := hts (Cond.fieldLink RX7 122 "SightLegendModel" "boxWide" "I") (List.mem_cons_of_mem _ (GL_22 _ (by decide +kernel)))
  have w5 := hts (Cond.fieldLink RX7 125 "SightLegendModel" "boxTop" "I") (List.mem_cons_of_mem _ (GL_22 _ (by decide +kernel)))
  have w6 := hts (Cond.fieldLink RX7 128 "SightLegendModel" "boxHigh" "I") (List.mem_cons_of_mem _ (GL_22 _ (by decide +kernel)))
  unfold f_X7_isCovered at h
  refine a_sub (ls1 := [(0, Value.ref (ad 161)), (1, vI p1)]) [0, 1] rfl ?_
  refine a_aload_n (pc := 0) a 0 dX7_isCovered_0 rfl rfl ?_
  refine a_getI (pc := 1) a 18 18 rfl tb vc7 w2 w1 (by decide) (by decide) rfl dX7_isCovered_1 ?_
  refine a_iconst (pc := 4) a dX7_isCovered_4 ?_
  refine a_icmp_eq (pc := 5) a h.1 ⟨by decide, by decide⟩ dX7_isCovered_5 (tgt := 60) (by decide) (fun hq => ?_) (fun hq => ?_)
  · replace h := h.2.1 hq
    clear hq
    refine a_iconst (pc := 60) a dX7_isCovered_60 ?_
    exact e_z (pc := 61) a hr (by decide) dX7_isCovered_61 ⟨rfl, h⟩
  · replace h := h.2.2 hq
    clear hq
    refine a_aload_n (pc := 8) a 0 dX7_isCovered_8 rfl rfl ?_
    refine a_iload_n (pc := 9) a 1 dX7_isCovered_9 rfl rfl ?_
    refine a_iconst (pc := 10) a dX7_isCovered_10 ?_
    refine a_cvi (pc := 11) a (As := [vI p1, vI 1]) (rest := []) tb vc7 (fun sz => c_X7_of hinj hl0  h sz) (cwV 2 hts (gl_V (GL_10 _ (by decide +kernel)) (GL_10 _ (by decide +kernel)) (GL_10 _ (by decide +kernel)) (GL_1 _ (by decide +kernel)) (GL_11 _ (by decide +kernel))) rfl rfl rfl (by decide +kernel) ⟨Nat.le_of_ble_eq_true rfl, Nat.le_of_ble_eq_true rfl⟩) rfl rfl (Nat.le_of_ble_eq_true rfl) ⟨Nat.le_of_ble_eq_true rfl, Nat.le_of_ble_eq_true rfl⟩ dX7_isCovered_11 ?_
    rintro x1 s9 ⟨hs9, h9⟩
    subst s9
    replace h := h9
    clear h9
    refine a_aload_n (pc := 14) a 0 dX7_isCovered_14 rfl rfl ?_
    refine a_getI (pc := 15) a 19 19 rfl tb vc7 w2 w3 (by decide) (by decide) rfl dX7_isCovered_15 ?_
    refine a_isub (pc := 18) a dX7_isCovered_18 ?_
    refine a_iconst (pc := 19) a dX7_isCovered_19 ?_
    refine a_aload_n (pc := 20) a 0 dX7_isCovered_20 rfl rfl ?_
    refine a_getI (pc := 21) a 21 21 rfl tb vc7 w2 w4 (by decide) (by decide) rfl dX7_isCovered_21 ?_
    refine a_iconst (pc := 24) a dX7_isCovered_24 ?_
    refine a_isub (pc := 25) a dX7_isCovered_25 ?_
    refine a_csi (pc := 26) a (As := [vI (x1 - (σ 161 19)), vI 0, vI ((σ 161 21) - 1)]) (rest := []) (fun sz => c_X7_in hinj hl0  h sz) (va_cwS 3 hts (gl_S (GL_8 _ (by decide +kernel)) (GL_8 _ (by decide +kernel)) (GL_1 _ (by decide +kernel)) (GL_8 _ (by decide +kernel))) rfl rfl rfl (by decide +kernel) ⟨Nat.le_of_ble_eq_true rfl, Nat.le_of_ble_eq_true rfl⟩) rfl rfl (Nat.le_of_ble_eq_true rfl) ⟨Nat.le_of_ble_eq_true rfl, Nat.le_of_ble_eq_true rfl⟩ dX7_isCovered_26 ?_
    rintro x2 s9 ⟨hs9, h9⟩
    subst s9
    replace h := h9
    clear h9
    refine a_if_eq (pc := 29) a h.1 dX7_isCovered_29 (tgt := 60) (by decide) (fun hq => ?_) (fun hq => ?_)
    · replace h := h.2.1 hq
      clear hq
      refine a_iconst (pc := 60) a dX7_isCovered_60 ?_
      exact e_z (pc := 61) a hr (by decide) dX7_isCovered_61 ⟨rfl, h⟩
    · replace h := h.2.2 hq
      clear hq
      refine a_aload_n (pc := 32) a 0 dX7_isCovered_32 rfl rfl ?_
      refine a_iload_n (pc := 33) a 1 dX7_isCovered_33 rfl rfl ?_
      refine a_iconst (pc := 34) a dX7_isCovered_34 ?_
      refine a_cvi (pc := 35) a (As := [vI p1, vI 2]) (rest := []) tb vc7 (fun sz => c_X7_of hinj hl0  h sz) (cwV 2 hts (gl_V (GL_10 _ (by decide +kernel)) (GL_10 _ (by decide +kernel)) (GL_10 _ (by decide +kernel)) (GL_1 _ (by decide +kernel)) (GL_11 _ (by decide +kernel))) rfl rfl rfl (by decide +kernel) ⟨Nat.le_of_ble_eq_true rfl, Nat.le_of_ble_eq_true rfl⟩) rfl rfl (Nat.le_of_ble_eq_true rfl) ⟨Nat.le_of_ble_eq_true rfl, Nat.le_of_ble_eq_true rfl⟩ dX7_isCovered_35 ?_
      rintro x3 s9 ⟨hs9, h9⟩
      subst s9
      replace h := h9
      clear h9
      refine a_aload_n (pc := 38) a 0 dX7_isCovered_38 rfl rfl ?_
      refine a_getI (pc := 39) a 20 20 rfl tb vc7 w2 w5 (by decide) (by decide) rfl dX7_isCovered_39 ?_
      refine a_isub (pc := 42) a dX7_isCovered_42 ?_
      refine a_iconst (pc := 43) a dX7_isCovered_43 ?_
      refine a_aload_n (pc := 44) a 0 dX7_isCovered_44 rfl rfl ?_
      refine a_getI (pc := 45) a 22 22 rfl tb vc7 w2 w6 (by decide) (by decide) rfl dX7_isCovered_45 ?_
      refine a_iconst (pc := 48) a dX7_isCovered_48 ?_
      refine a_isub (pc := 49) a dX7_isCovered_49 ?_
      refine a_csi (pc := 50) a (As := [vI (x3 - (σ 161 20)), vI 0, vI ((σ 161 22) - 1)]) (rest := []) (fun sz => c_X7_in hinj hl0  h sz) (va_cwS 3 hts (gl_S (GL_8 _ (by decide +kernel)) (GL_8 _ (by decide +kernel)) (GL_1 _ (by decide +kernel)) (GL_8 _ (by decide +kernel))) rfl rfl rfl (by decide +kernel) ⟨Nat.le_of_ble_eq_true rfl, Nat.le_of_ble_eq_true rfl⟩) rfl rfl (Nat.le_of_ble_eq_true rfl) ⟨Nat.le_of_ble_eq_true rfl, Nat.le_of_ble_eq_true rfl⟩ dX7_isCovered_50 ?_
      rintro x4 s9 ⟨hs9, h9⟩
      subst s9
      replace h := h9
      clear h9
      refine a_if_eq (pc := 53) a h.1 dX7_isCovered_53 (tgt := 60) (by decide) (fun hq => ?_) (fun hq => ?_)
      · replace h := h.2.1 hq
        clear hq
        refine a_iconst (pc := 60) a dX7_isCovered_60 ?_
        exact e_z (pc := 61) a hr (by decide) dX7_isCovered_61 ⟨rfl, h⟩
      · replace h := h.2.2 hq
        clear hq
        refine a_iconst (pc := 56) a dX7_isCovered_56 ?_
        refine a_goto (pc := 57) a dX7_isCovered_57 (tgt := 61) (by decide) ?_
        exact e_z (pc := 61) a hr (by decide) dX7_isCovered_61 ⟨rfl, h⟩

set_option maxRecDepth 100000 in
set_option maxHeartbeats 4000000 in
theorem c_X7_coveredMany {l : Launch} {D : va_G} {X : XI} {ad : Nat → Nat} (hinj : adI ad) (hl0 : l.stackTraces = false)   {σ : St} {K : Int → Prop} (h : f_X7_coveredMany σ K) (sz : Nat) : Met l yX7_coveredMany (WW (.code yX7_coveredMany cX7_coveredMany 3 (some .int))) { frames := 3, cells := 0, slots := 0, locals := 64 } (va_Pc [Value.ref (ad 161)] (WD D X ad σ sz)) (QI D X ad sz (fun r τ => τ = σ ∧ K r)) 0 0 (AA ad sz) := by
  refine a_start (cc := cX7_coveredMany) (maxL := 3) (ret := (some .int)) (own := RX7) [Value.ref (ad 161)] (by decide) rfl rfl (Nat.le_of_ble_eq_true rfl) hinj hl0 ?_
  intro p e s m below meth c a hr hsz
  subst hsz
  have hts := a.1.2.2.2.2
  have tb : tyc 161 (11, 0) := ⟨by decide, rfl⟩
  have w1 := hts (Cond.fieldLink RX7 7 "SightLegendModel" "s" "[I") (List.mem_cons_of_mem _ (GL_5 _ (by decide +kernel)))
  have w2 : ∀ w ∈ u_ws RX7 TX7 29, w ∈ WW (.code yX7_coveredMany cX7_coveredMany 3 (some .int)) := fun w h => List.mem_cons_of_mem _ (inlX7 w h)
  have w3 : tyc 162 (0, 311) := ty_of (d := 1) (t1 := (0, 311)) (by decide +kernel) rfl tb
  unfold f_X7_coveredMany at h
  refine a_sub (ls1 := [(0, Value.ref (ad 161))]) [0] rfl ?_
  refine a_iconst (pc := 0) a dX7_coveredMany_0 ?_
  refine a_istore_n (pc := 1) a (ls1 := [(1, vI 0), (0, Value.ref (ad 161))]) dX7_coveredMany_1 rfl (by decide) rfl ?_
  refine a_iconst (pc := 2) a dX7_coveredMany_2 ?_
  refine a_istore_n (pc := 3) a (ls1 := [(2, vI 0), (1, vI 0), (0, Value.ref (ad 161))]) dX7_coveredMany_3 rfl (by decide) rfl ?_
  refine a_sub (ls1 := [(0, Value.ref (ad 161)), (1, vI 0), (2, vI 0)]) [2, 1, 0] rfl ?_
  refine g_wl2 (fun x1 x2 => [(0, Value.ref (ad 161)), (1, vI x1), (2, vI x2)]) h ?_
  clear h
  intro x1 x2 ag4 hag4 h
  refine a_iload_n (pc := 4) a 2 dX7_coveredMany_4 rfl rfl ?_
  refine a_aload_n (pc := 5) a 0 dX7_coveredMany_5 rfl rfl ?_
  refine a_getR (pc := 6) a 0 0 rfl tb vc7 w2 w1 (by decide) (by decide) 1 (q := 162) rfl rfl dX7_coveredMany_6 ?_
  refine a_bipush (pc := 9) a dX7_coveredMany_9 (by decide) ?_
  refine a_iald (pc := 11) a w3 (by decide) (by decide) dX7_coveredMany_11 ?_
  refine a_icmp_ge (pc := 12) a h.1 h.2.1 dX7_coveredMany_12 (tgt := 45) (by decide) (fun hq => ?_) (fun hq => ?_)
  · replace h := h.2.2.1 hq
    clear hq
    refine a_iload_n (pc := 45) a 1 dX7_coveredMany_45 rfl rfl ?_
    exact e_i (pc := 46) a hr dX7_coveredMany_46 ⟨rfl, h⟩
  · replace h := h.2.2.2 hq
    clear hq
    refine a_iload_n (pc := 15) a 1 dX7_coveredMany_15 rfl rfl ?_
    refine a_aload_n (pc := 16) a 0 dX7_coveredMany_16 rfl rfl ?_
    refine a_iload_n (pc := 17) a 2 dX7_coveredMany_17 rfl rfl ?_
    refine a_cvi (pc := 18) a (As := [vI x2]) (rest := [vI x1]) tb vc7 (fun sz => c_X7_isShown hinj hl0  h sz) (cwV 1 hts (gl_V (GL_12 _ (by decide +kernel)) (GL_12 _ (by decide +kernel)) (GL_12 _ (by decide +kernel)) (GL_1 _ (by decide +kernel)) (GL_12 _ (by decide +kernel))) rfl rfl rfl (by decide +kernel) ⟨Nat.le_of_ble_eq_true rfl, Nat.le_of_ble_eq_true rfl⟩) rfl rfl (Nat.le_of_ble_eq_true rfl) ⟨Nat.le_of_ble_eq_true rfl, Nat.le_of_ble_eq_true rfl⟩ dX7_coveredMany_18 ?_
    rintro x3 s9 ⟨hs9, h9⟩
    subst s9
    replace h := h9
    clear h9
    refine a_if_eq (pc := 21) a h.1 dX7_coveredMany_21 (tgt := 36) (by decide) (fun hq => ?_) (fun hq => ?_)
    · replace h := h.2.1 hq
      clear hq
      refine a_iconst (pc := 36) a dX7_coveredMany_36 ?_
      refine a_iadd (pc := 37) a dX7_coveredMany_37 ?_
      refine a_nm (fun x4 hx => ?_)
      replace h := h x4 hx
      clear hx
      refine a_istore_n (pc := 38) a (ls1 := [(1, vI x4), (0, Value.ref (ad 161)), (2, vI x2)]) dX7_coveredMany_38 rfl (by decide) rfl ?_
      refine a_iinc (pc := 39) a (ls1 := [(2, vI (x2 + 1)), (1, vI x4), (0, Value.ref (ad 161))]) 2 dX7_coveredMany_39 rfl (by decide) rfl ?_
      refine a_goto (pc := 42) a dX7_coveredMany_42 (tgt := 4) (by decide) ?_
      refine a_sub (ls1 := [(0, Value.ref (ad 161)), (1, vI x4), (2, vI (x2 + 1))]) [2, 1, 0] rfl ?_
      exact hag4 x4 (x2 + 1) h
    · replace h := h.2.2 hq
      clear hq
      refine a_aload_n (pc := 24) a 0 dX7_coveredMany_24 rfl rfl ?_
      refine a_iload_n (pc := 25) a 2 dX7_coveredMany_25 rfl rfl ?_
      refine a_cvi (pc := 26) a (As := [vI x2]) (rest := [vI x1]) tb vc7 (fun sz => c_X7_isCovered hinj hl0  h sz) (cwV 1 hts (gl_V (GL_22 _ (by decide +kernel)) (GL_22 _ (by decide +kernel)) (GL_22 _ (by decide +kernel)) (GL_1 _ (by decide +kernel)) (GL_22 _ (by decide +kernel))) rfl rfl rfl (by decide +kernel) ⟨Nat.le_of_ble_eq_true rfl, Nat.le_of_ble_eq_true rfl⟩) rfl rfl (Nat.le_of_ble_eq_true rfl) ⟨Nat.le_of_ble_eq_true rfl, Nat.le_of_ble_eq_true rfl⟩ dX7_coveredMany_26 ?_
      rintro x5 s9 ⟨hs9, h9⟩
      subst s9
      replace h := h9
      clear h9
      refine a_if_eq (pc := 29) a h.1 dX7_coveredMany_29 (tgt := 36) (by decide) (fun hq => ?_) (fun hq => ?_)
      · replace h := h.2.1 hq
        clear hq
        refine a_iconst (pc := 36) a dX7_coveredMany_36 ?_
        refine a_iadd (pc := 37) a dX7_coveredMany_37 ?_
        refine a_nm (fun x6 hx => ?_)
        replace h := h x6 hx
        clear hx
        refine a_istore_n (pc := 38) a (ls1 := [(1, vI x6), (0, Value.ref (ad 161)), (2, vI x2)]) dX7_coveredMany_38 rfl (by decide) rfl ?_
        refine a_iinc (pc := 39) a (ls1 := [(2, vI (x2 + 1)), (1, vI x6), (0, Value.ref (ad 161))]) 2 dX7_coveredMany_39 rfl (by decide) rfl ?_
        refine a_goto (pc := 42) a dX7_coveredMany_42 (tgt := 4) (by decide) ?_
        refine a_sub (ls1 := [(0, Value.ref (ad 161)), (1, vI x6), (2, vI (x2 + 1))]) [2, 1, 0] rfl ?_
        exact hag4 x6 (x2 + 1) h
      · replace h := h.2.2 hq
        clear hq
        refine a_iconst (pc := 32) a dX7_coveredMany_32 ?_
        refine a_goto (pc := 33) a dX7_coveredMany_33 (tgt := 37) (by decide) ?_
        refine a_iadd (pc := 37) a dX7_coveredMany_37 ?_
        refine a_nm (fun x7 hx => ?_)
        replace h := h x7 hx
        clear hx
        refine a_istore_n (pc := 38) a (ls1 := [(1, vI x7), (0, Value.ref (ad 161)), (2, vI x2)]) dX7_coveredMany_38 rfl (by decide) rfl ?_
        refine a_iinc (pc := 39) a (ls1 := [(2, vI (x2 + 1)), (1, vI x7), (0, Value.ref (ad 161))]) 2 dX7_coveredMany_39 rfl (by decide) rfl ?_
        refine a_goto (pc := 42) a dX7_coveredMany_42 (tgt := 4) (by decide) ?_
        refine a_sub (ls1 := [(0, Value.ref (ad 161)), (1, vI x7), (2, vI (x2 + 1))]) [2, 1, 0] rfl ?_
        exact hag4 x7 (x2 + 1) h

set_option maxRecDepth 100000 in
set_option maxHeartbeats 4000000 in
theorem c_X7_stands {l : Launch} {D : va_G} {X : XI} {ad : Nat → Nat} (hinj : adI ad) (hl0 : l.stackTraces = false) {p1 : Int}  {σ : St} {K : St → Prop} (h : f_X7_stands p1 σ K) (sz : Nat) : Met l yX7_stands (WW (.code yX7_stands cX7_stands 2 none)) { frames := 0, cells := 0, slots := 0, locals := 0 } (va_Pc [Value.ref (ad 161), vI p1] (WD D X ad σ sz)) (QV D X ad sz K) 0 0 (AA ad sz) := by
  refine a_start (cc := cX7_stands) (maxL := 2) (ret := none) (own := RX7) [Value.ref (ad 161), vI p1] (by decide) rfl rfl (Nat.le_of_ble_eq_true rfl) hinj hl0 ?_
  intro p e s m below meth c a hr hsz
  subst hsz
  have hts := a.1.2.2.2.2
  have tb : tyc 161 (11, 0) := ⟨by decide, rfl⟩
  have w1 := hts (Cond.fieldLink RX7 116 "SightLegendModel" "corner" "I") (List.mem_cons_of_mem _ (GL_22 _ (by decide +kernel)))
  have w2 : ∀ w ∈ u_ws RX7 TX7 29, w ∈ WW (.code yX7_stands cX7_stands 2 none) := fun w h => List.mem_cons_of_mem _ (inlX7 w h)
  have w3 := hts (Cond.fieldLink RX7 7 "SightLegendModel" "s" "[I") (List.mem_cons_of_mem _ (GL_5 _ (by decide +kernel)))
  have w4 : tyc 162 (0, 311) := ty_of (d := 1) (t1 := (0, 311)) (by decide +kernel) rfl tb
  have w5 := hts (Cond.fieldLink RX7 122 "SightLegendModel" "boxWide" "I") (List.mem_cons_of_mem _ (GL_22 _ (by decide +kernel)))
  have w6 := hts (Cond.fieldLink RX7 119 "SightLegendModel" "boxLeft" "I") (List.mem_cons_of_mem _ (GL_22 _ (by decide +kernel)))
  have w7 := hts (Cond.fieldLink RX7 128 "SightLegendModel" "boxHigh" "I") (List.mem_cons_of_mem _ (GL_22 _ (by decide +kernel)))
  have w8 := hts (Cond.fieldLink RX7 125 "SightLegendModel" "boxTop" "I") (List.mem_cons_of_mem _ (GL_22 _ (by decide +kernel)))
  unfold f_X7_stands at h
  refine a_sub (ls1 := [(0, Value.ref (ad 161)), (1, vI p1)]) [0, 1] rfl ?_
  refine a_aload_n (pc := 0) a 0 dX7_stands_0 rfl rfl ?_
  refine a_iload_n (pc := 1) a 1 dX7_stands_1 rfl rfl ?_
  refine a_putI (pc := 2) a 18 18 rfl tb vc7 w2 w1 (by decide) (by decide) tyX7 tyX7_ok nmX7 rfl rfl (by decide +kernel) dX7_stands_2 ?_
  refine a_nmS (fun s1 hx => ?_)
  replace h := h s1 hx
  clear hx
  refine a_aload_n (pc := 5) a 0 dX7_stands_5 rfl rfl ?_
  refine a_iload_n (pc := 6) a 1 dX7_stands_6 rfl rfl ?_
  refine a_iconst (pc := 7) a dX7_stands_7 ?_
  refine a_irem (pc := 8) a dX7_stands_8 h.1 (by decide) ?_
  replace h := h.2
  refine g_wj1 40 0 0 (fun x3 => [(0, Value.ref (ad 161)), (1, vI p1)]) (fun x3 => [vI x3, Value.ref (ad 161)]) h ?_ ?_
  · clear h
    intro x3 h
    refine a_putI (pc := 40) a 19 19 rfl tb vc7 w2 w6 (by decide) (by decide) tyX7 tyX7_ok nmX7 rfl rfl (by decide +kernel) dX7_stands_40 ?_
    refine a_nmS (fun s4 hx => ?_)
    replace h := h s4 hx
    clear hx
    refine a_aload_n (pc := 43) a 0 dX7_stands_43 rfl rfl ?_
    refine a_iload_n (pc := 44) a 1 dX7_stands_44 rfl rfl ?_
    refine a_iconst (pc := 45) a dX7_stands_45 ?_
    refine a_icmp_ge (pc := 46) a h.1 ⟨by decide, by decide⟩ dX7_stands_46 (tgt := 58) (by decide) (fun hq => ?_) (fun hq => ?_)
    · replace h := h.2.1 hq
      clear hq
      refine a_aload_n (pc := 58) a 0 dX7_stands_58 rfl rfl ?_
      refine a_getR (pc := 59) a 0 0 rfl tb vc7 w2 w3 (by decide) (by decide) 1 (q := 162) rfl rfl dX7_stands_59 ?_
      refine a_iconst (pc := 62) a dX7_stands_62 ?_
      refine a_iald (pc := 63) a w4 (by decide) (by decide) dX7_stands_63 ?_
      refine a_aload_n (pc := 64) a 0 dX7_stands_64 rfl rfl ?_
      refine a_getR (pc := 65) a 0 0 rfl tb vc7 w2 w3 (by decide) (by decide) 1 (q := 162) rfl rfl dX7_stands_65 ?_
      refine a_bipush (pc := 68) a dX7_stands_68 (by decide) ?_
      refine a_iald (pc := 70) a w4 (by decide) (by decide) dX7_stands_70 ?_
      refine a_iadd (pc := 71) a dX7_stands_71 ?_
      refine a_aload_n (pc := 72) a 0 dX7_stands_72 rfl rfl ?_
      refine a_getI (pc := 73) a 22 22 rfl tb vc7 w2 w7 (by decide) (by decide) rfl dX7_stands_73 ?_
      refine a_isub (pc := 76) a dX7_stands_76 ?_
      refine a_putI (pc := 77) a 20 20 rfl tb vc7 w2 w8 (by decide) (by decide) tyX7 tyX7_ok nmX7 rfl rfl (by decide +kernel) dX7_stands_77 ?_
      refine a_nmS (fun s5 hx => ?_)
      replace h := h s5 hx
      clear hx
      exact e_v (pc := 80) a hr dX7_stands_80 h
    · replace h := h.2.2 hq
      clear hq
      refine a_aload_n (pc := 49) a 0 dX7_stands_49 rfl rfl ?_
      refine a_getR (pc := 50) a 0 0 rfl tb vc7 w2 w3 (by decide) (by decide) 1 (q := 162) rfl rfl dX7_stands_50 ?_
      refine a_iconst (pc := 53) a dX7_stands_53 ?_
      refine a_iald (pc := 54) a w4 (by decide) (by decide) dX7_stands_54 ?_
      refine a_goto (pc := 55) a dX7_stands_55 (tgt := 77) (by decide) ?_
      refine a_putI (pc := 77) a 20 20 rfl tb vc7 w2 w8 (by decide) (by decide) tyX7 tyX7_ok nmX7 rfl rfl (by decide +kernel) dX7_stands_77 ?_
      refine a_nmS (fun s6 hx => ?_)
      replace h := h s6 hx
      clear hx
      exact e_v (pc := 80) a hr dX7_stands_80 h
  · clear h
    intro jj40 hjj40 h
    refine a_if_ne (pc := 9) a h.1 dX7_stands_9 (tgt := 21) (by decide) (fun hq => ?_) (fun hq => ?_)
    · replace h := h.2.1 hq
      clear hq
      refine a_aload_n (pc := 21) a 0 dX7_stands_21 rfl rfl ?_
      refine a_getR (pc := 22) a 0 0 rfl tb vc7 w2 w3 (by decide) (by decide) 1 (q := 162) rfl rfl dX7_stands_22 ?_
      refine a_iconst (pc := 25) a dX7_stands_25 ?_
      refine a_iald (pc := 26) a w4 (by decide) (by decide) dX7_stands_26 ?_
      refine a_aload_n (pc := 27) a 0 dX7_stands_27 rfl rfl ?_
      refine a_getR (pc := 28) a 0 0 rfl tb vc7 w2 w3 (by decide) (by decide) 1 (q := 162) rfl rfl dX7_stands_28 ?_
      refine a_bipush (pc := 31) a dX7_stands_31 (by decide) ?_
      refine a_iald (pc := 33) a w4 (by decide) (by decide) dX7_stands_33 ?_
      refine a_iadd (pc := 34) a dX7_stands_34 ?_
      refine a_aload_n (pc := 35) a 0 dX7_stands_35 rfl rfl ?_
      refine a_getI (pc := 36) a 21 21 rfl tb vc7 w2 w5 (by decide) (by decide) rfl dX7_stands_36 ?_
      refine a_isub (pc := 39) a dX7_stands_39 ?_
      exact hjj40 (((s1 162 4) + (s1 162 6)) - (s1 161 21)) h
    · replace h := h.2.2 hq
      clear hq
      refine a_aload_n (pc := 12) a 0 dX7_stands_12 rfl rfl ?_
      refine a_getR (pc := 13) a 0 0 rfl tb vc7 w2 w3 (by decide) (by decide) 1 (q := 162) rfl rfl dX7_stands_13 ?_
      refine a_iconst (pc := 16) a dX7_stands_16 ?_
      refine a_iald (pc := 17) a w4 (by decide) (by decide) dX7_stands_17 ?_
      refine a_goto (pc := 18) a dX7_stands_18 (tgt := 40) (by decide) ?_
      exact hjj40 (s1 162 4) h

set_option maxRecDepth 100000 in
set_option maxHeartbeats 4000000 in
theorem c_X7_laysBox {l : Launch} {D : va_G} {X : XI} {ad : Nat → Nat} (hinj : adI ad) (hl0 : l.stackTraces = false)   {σ : St} {K : St → Prop} (h : f_X7_laysBox σ K) (sz : Nat) : Met l yX7_laysBox (WW (.code yX7_laysBox cX7_laysBox 11 none)) { frames := 4, cells := 0, slots := 0, locals := 86 } (va_Pc [Value.ref (ad 161)] (WD D X ad σ sz)) (QV D X ad sz K) 0 0 (AA ad sz) := by
  refine a_start (cc := cX7_laysBox) (maxL := 11) (ret := none) (own := RX7) [Value.ref (ad 161)] (by decide) rfl rfl (Nat.le_of_ble_eq_true rfl) hinj hl0 ?_
  intro p e s m below meth c a hr hsz
  subst hsz
  have hts := a.1.2.2.2.2
  have tb : tyc 161 (11, 0) := ⟨by decide, rfl⟩
  have w1 := hts (Cond.fieldLink RX7 116 "SightLegendModel" "corner" "I") (List.mem_cons_of_mem _ (GL_22 _ (by decide +kernel)))
  have w2 : ∀ w ∈ u_ws RX7 TX7 29, w ∈ WW (.code yX7_laysBox cX7_laysBox 11 none) := fun w h => List.mem_cons_of_mem _ (inlX7 w h)
  have w3 := hts (Cond.fieldLink RX7 83 "SightLegendModel" "lines" "I") (List.mem_cons_of_mem _ (GL_22 _ (by decide +kernel)))
  have w4 := hts (Cond.fieldLink RX7 7 "SightLegendModel" "s" "[I") (List.mem_cons_of_mem _ (GL_5 _ (by decide +kernel)))
  have w5 : tyc 162 (0, 311) := ty_of (d := 1) (t1 := (0, 311)) (by decide +kernel) rfl tb
  have w6 := hts (Cond.fieldLink RX7 122 "SightLegendModel" "boxWide" "I") (List.mem_cons_of_mem _ (GL_22 _ (by decide +kernel)))
  have w7 := hts (Cond.fieldLink RX7 128 "SightLegendModel" "boxHigh" "I") (List.mem_cons_of_mem _ (GL_22 _ (by decide +kernel)))
  have w8 := hts (Cond.fieldLink RX7 29 "SightLegendModel" "line" "[I") (List.mem_cons_of_mem _ (GL_5 _ (by decide +kernel)))
  have w9 : tyc 168 (0, 400) := ty_of (d := 7) (t1 := (0, 400)) (by decide +kernel) rfl tb
  have w10 := hts (Cond.fieldLink RX7 35 "SightLegendModel" "columnOf" "[I") (List.mem_cons_of_mem _ (GL_5 _ (by decide +kernel)))
  have w11 : tyc 170 (0, 80) := ty_of (d := 9) (t1 := (0, 80)) (by decide +kernel) rfl tb
  have w12 := hts (Cond.fieldLink RX7 38 "SightLegendModel" "placeOf" "[I") (List.mem_cons_of_mem _ (GL_5 _ (by decide +kernel)))
  have w13 : tyc 171 (0, 80) := ty_of (d := 10) (t1 := (0, 80)) (by decide +kernel) rfl tb
  unfold f_X7_laysBox at h
  refine a_sub (ls1 := [(0, Value.ref (ad 161))]) [0] rfl ?_
  refine a_aload_n (pc := 0) a 0 dX7_laysBox_0 rfl rfl ?_
  refine a_iconst (pc := 1) a dX7_laysBox_1 ?_
  refine a_putI (pc := 2) a 18 18 rfl tb vc7 w2 w1 (by decide) (by decide) tyX7 tyX7_ok nmX7 rfl rfl (by decide +kernel) dX7_laysBox_2 ?_
  refine a_nmS (fun s1 hx => ?_)
  replace h := h s1 hx
  clear hx
  refine a_aload_n (pc := 5) a 0 dX7_laysBox_5 rfl rfl ?_
  refine a_getI (pc := 6) a 13 13 rfl tb vc7 w2 w3 (by decide) (by decide) rfl dX7_laysBox_6 ?_
  refine a_if_ne (pc := 9) a h.1 dX7_laysBox_9 (tgt := 13) (by decide) (fun hq => ?_) (fun hq => ?_)
  · replace h := h.2.1 hq
    clear hq
    refine a_aload_n (pc := 13) a 0 dX7_laysBox_13 rfl rfl ?_
    refine a_getI (pc := 14) a 13 13 rfl tb vc7 w2 w3 (by decide) (by decide) rfl dX7_laysBox_14 ?_
    refine a_aload_n (pc := 17) a 0 dX7_laysBox_17 rfl rfl ?_
    refine a_getR (pc := 18) a 0 0 rfl tb vc7 w2 w4 (by decide) (by decide) 1 (q := 162) rfl rfl dX7_laysBox_18 ?_
    refine a_iconst (pc := 21) a dX7_laysBox_21 ?_
    refine a_iald (pc := 22) a w5 (by decide) (by decide) dX7_laysBox_22 ?_
    refine a_iadd (pc := 23) a dX7_laysBox_23 ?_
    refine a_iconst (pc := 24) a dX7_laysBox_24 ?_
    refine a_isub (pc := 25) a dX7_laysBox_25 ?_
    refine a_aload_n (pc := 26) a 0 dX7_laysBox_26 rfl rfl ?_
    refine a_getR (pc := 27) a 0 0 rfl tb vc7 w2 w4 (by decide) (by decide) 1 (q := 162) rfl rfl dX7_laysBox_27 ?_
    refine a_iconst (pc := 30) a dX7_laysBox_30 ?_
    refine a_iald (pc := 31) a w5 (by decide) (by decide) dX7_laysBox_31 ?_
    refine a_idiv (pc := 32) a dX7_laysBox_32 h.1 h.2.1 ?_
    replace h := h.2.2
    refine a_nm (fun x2 hx => ?_)
    replace h := h x2 hx
    clear hx
    refine a_istore_n (pc := 33) a (ls1 := [(1, vI x2), (0, Value.ref (ad 161))]) dX7_laysBox_33 rfl (by decide) rfl ?_
    refine a_iconst (pc := 34) a dX7_laysBox_34 ?_
    refine a_istore_n (pc := 35) a (ls1 := [(2, vI 0), (1, vI x2), (0, Value.ref (ad 161))]) dX7_laysBox_35 rfl (by decide) rfl ?_
    refine a_iconst (pc := 36) a dX7_laysBox_36 ?_
    refine a_istore_n (pc := 37) a (ls1 := [(3, vI 0), (2, vI 0), (1, vI x2), (0, Value.ref (ad 161))]) dX7_laysBox_37 rfl (by decide) rfl ?_
    refine a_iconst (pc := 38) a dX7_laysBox_38 ?_
    refine a_istore (pc := 39) a (ls1 := [(4, vI 0), (3, vI 0), (2, vI 0), (1, vI x2), (0, Value.ref (ad 161))]) dX7_laysBox_39 (by decide) rfl ?_
    refine a_iconst (pc := 41) a dX7_laysBox_41 ?_
    refine a_istore (pc := 42) a (ls1 := [(5, vI 0), (4, vI 0), (3, vI 0), (2, vI 0), (1, vI x2), (0, Value.ref (ad 161))]) dX7_laysBox_42 (by decide) rfl ?_
    refine a_sub (ls1 := [(0, Value.ref (ad 161)), (1, vI x2), (2, vI 0), (3, vI 0), (4, vI 0), (5, vI 0)]) [5, 4, 3, 2, 1, 0] rfl ?_
    refine g_wl4s (fun x3 x4 x5 x6 => [(0, Value.ref (ad 161)), (1, vI x2), (2, vI x3), (3, vI x4), (4, vI x5), (5, vI x6)]) h ?_
    clear h
    intro x3 x4 x5 x6 s7 ag44 hag44 h
    refine a_iload (pc := 44) a 5 dX7_laysBox_44 rfl ?_
    refine a_aload_n (pc := 46) a 0 dX7_laysBox_46 rfl rfl ?_
    refine a_getI (pc := 47) a 13 13 rfl tb vc7 w2 w3 (by decide) (by decide) rfl dX7_laysBox_47 ?_
    refine a_icmp_ge (pc := 50) a h.1 h.2.1 dX7_laysBox_50 (tgt := 150) (by decide) (fun hq => ?_) (fun hq => ?_)
    · replace h := h.2.2.1 hq
      clear hq
      refine a_aload_n (pc := 150) a 0 dX7_laysBox_150 rfl rfl ?_
      refine a_getR (pc := 151) a 0 0 rfl tb vc7 w2 w4 (by decide) (by decide) 1 (q := 162) rfl rfl dX7_laysBox_151 ?_
      refine a_iconst (pc := 154) a dX7_laysBox_154 ?_
      refine a_iald (pc := 155) a w5 (by decide) (by decide) dX7_laysBox_155 ?_
      refine a_iload_n (pc := 156) a 2 dX7_laysBox_156 rfl rfl ?_
      refine a_iconst (pc := 157) a dX7_laysBox_157 ?_
      refine a_iadd (pc := 158) a dX7_laysBox_158 ?_
      refine a_imul (pc := 159) a dX7_laysBox_159 ?_
      refine a_nm (fun x8 hx => ?_)
      replace h := h x8 hx
      clear hx
      refine a_istore (pc := 160) a (ls1 := [(5, vI x8), (0, Value.ref (ad 161)), (1, vI x2), (2, vI x3), (3, vI x4), (4, vI x5)]) dX7_laysBox_160 (by decide) rfl ?_
      refine a_aload_n (pc := 162) a 1 dX7_laysBox_162 rfl rfl ?_
      refine a_getR (pc := 163) a 0 0 rfl tb vc7 w2 w4 (by decide) (by decide) 1 (q := 162) rfl rfl dX7_laysBox_163 ?_
      refine a_iconst (pc := 166) a dX7_laysBox_166 ?_
      refine a_iald (pc := 167) a w5 (by decide) (by decide) dX7_laysBox_167 ?_
      refine a_iload (pc := 168) a 5 dX7_laysBox_168 rfl ?_
      refine a_imul (pc := 170) a dX7_laysBox_170 ?_
      refine a_nm (fun x9 hx => ?_)
      replace h := h x9 hx
      clear hx
      refine a_istore (pc := 171) a (ls1 := [(6, vI x9), (5, vI x8), (0, Value.ref (ad 161)), (1, vI x2), (2, vI x3), (3, vI x4), (4, vI x5)]) dX7_laysBox_171 (by decide) rfl ?_
      refine a_aload_n (pc := 173) a 2 dX7_laysBox_173 rfl rfl ?_
      refine a_iload (pc := 174) a 1 dX7_laysBox_174 rfl ?_
      refine a_aload_n (pc := 176) a 2 dX7_laysBox_176 rfl rfl ?_
      refine a_getR (pc := 177) a 0 0 rfl tb vc7 w2 w4 (by decide) (by decide) 1 (q := 162) rfl rfl dX7_laysBox_177 ?_
      refine a_bipush (pc := 180) a dX7_laysBox_180 (by decide) ?_
      refine a_iald (pc := 182) a w5 (by decide) (by decide) dX7_laysBox_182 ?_
      refine g_wj1 198 0 0 (fun x11 => [(0, Value.ref (ad 161)), (6, vI x9)]) (fun x11 => [vI x11, Value.ref (ad 161)]) h ?_ ?_
      · clear h
        intro x11 h
        refine a_putI (pc := 198) a 21 21 rfl tb vc7 w2 w6 (by decide) (by decide) tyX7 tyX7_ok nmX7 rfl rfl (by decide +kernel) dX7_laysBox_198 ?_
        refine a_nmS (fun s12 hx => ?_)
        replace h := h s12 hx
        clear hx
        refine a_aload_n (pc := 201) a 0 dX7_laysBox_201 rfl rfl ?_
        refine a_iload (pc := 202) a 1 dX7_laysBox_202 rfl ?_
        refine a_aload_n (pc := 204) a 0 dX7_laysBox_204 rfl rfl ?_
        refine a_getR (pc := 205) a 0 0 rfl tb vc7 w2 w4 (by decide) (by decide) 1 (q := 162) rfl rfl dX7_laysBox_205 ?_
        refine a_bipush (pc := 208) a dX7_laysBox_208 (by decide) ?_
        refine a_iald (pc := 210) a w5 (by decide) (by decide) dX7_laysBox_210 ?_
        refine g_wj1 226 0 0 (fun x14 => [(0, Value.ref (ad 161))]) (fun x14 => [vI x14, Value.ref (ad 161)]) h ?_ ?_
        · clear h
          intro x14 h
          refine a_putI (pc := 226) a 22 22 rfl tb vc7 w2 w7 (by decide) (by decide) tyX7 tyX7_ok nmX7 rfl rfl (by decide +kernel) dX7_laysBox_226 ?_
          refine a_nmS (fun s15 hx => ?_)
          replace h := h s15 hx
          clear hx
          refine a_iconst (pc := 229) a dX7_laysBox_229 ?_
          refine a_istore (pc := 230) a (ls1 := [(7, vI 0), (0, Value.ref (ad 161))]) dX7_laysBox_230 (by decide) rfl ?_
          refine a_bipush (pc := 232) a dX7_laysBox_232 (by decide) ?_
          refine a_istore (pc := 234) a (ls1 := [(8, vI 41), (7, vI 0), (0, Value.ref (ad 161))]) dX7_laysBox_234 (by decide) rfl ?_
          refine a_iconst (pc := 236) a dX7_laysBox_236 ?_
          refine a_istore (pc := 237) a (ls1 := [(9, vI 0), (8, vI 41), (7, vI 0), (0, Value.ref (ad 161))]) dX7_laysBox_237 (by decide) rfl ?_
          refine a_sub (ls1 := [(0, Value.ref (ad 161)), (7, vI 0), (8, vI 41), (9, vI 0)]) [3, 2, 1, 0] rfl ?_
          refine g_wl3s (fun x16 x17 x18 => [(0, Value.ref (ad 161)), (7, vI x16), (8, vI x17), (9, vI x18)]) h ?_
          clear h
          intro x16 x17 x18 s19 ag239 hag239 h
          refine a_iload (pc := 239) a 3 dX7_laysBox_239 rfl ?_
          refine a_iconst (pc := 241) a dX7_laysBox_241 ?_
          refine a_icmp_ge (pc := 242) a h.1 ⟨by decide, by decide⟩ dX7_laysBox_242 (tgt := 295) (by decide) (fun hq => ?_) (fun hq => ?_)
          · replace h := h.2.1 hq
            clear hq
            refine a_aload_n (pc := 295) a 0 dX7_laysBox_295 rfl rfl ?_
            refine a_iload (pc := 296) a 1 dX7_laysBox_296 rfl ?_
            refine a_cvv (pc := 298) a (As := [vI x16]) (rest := []) tb vc7 (fun sz => c_X7_stands hinj hl0  h sz) (cwV 1 hts (gl_V (GL_24 _ (by decide +kernel)) (GL_24 _ (by decide +kernel)) (GL_24 _ (by decide +kernel)) (GL_1 _ (by decide +kernel)) (GL_24 _ (by decide +kernel))) rfl rfl rfl (by decide +kernel) ⟨Nat.le_of_ble_eq_true rfl, Nat.le_of_ble_eq_true rfl⟩) rfl rfl (Nat.le_of_ble_eq_true rfl) ⟨Nat.le_of_ble_eq_true rfl, Nat.le_of_ble_eq_true rfl⟩ dX7_laysBox_298 ?_
            clear h
            intro s20 h
            exact e_v (pc := 301) a hr dX7_laysBox_301 h
          · replace h := h.2.2 hq
            clear hq
            refine a_aload_n (pc := 245) a 0 dX7_laysBox_245 rfl rfl ?_
            refine a_iload (pc := 246) a 3 dX7_laysBox_246 rfl ?_
            refine a_cvv (pc := 248) a (As := [vI x18]) (rest := []) tb vc7 (fun sz => c_X7_stands hinj hl0  h sz) (cwV 1 hts (gl_V (GL_24 _ (by decide +kernel)) (GL_24 _ (by decide +kernel)) (GL_24 _ (by decide +kernel)) (GL_1 _ (by decide +kernel)) (GL_24 _ (by decide +kernel))) rfl rfl rfl (by decide +kernel) ⟨Nat.le_of_ble_eq_true rfl, Nat.le_of_ble_eq_true rfl⟩) rfl rfl (Nat.le_of_ble_eq_true rfl) ⟨Nat.le_of_ble_eq_true rfl, Nat.le_of_ble_eq_true rfl⟩ dX7_laysBox_248 ?_
            clear h
            intro s21 h
            refine a_aload_n (pc := 251) a 0 dX7_laysBox_251 rfl rfl ?_
            refine a_cvi (pc := 252) a (As := []) (rest := []) tb vc7 (fun sz => c_X7_coveredMany hinj hl0  h sz) (cwV 0 hts (gl_V (GL_24 _ (by decide +kernel)) (GL_24 _ (by decide +kernel)) (GL_24 _ (by decide +kernel)) (GL_1 _ (by decide +kernel)) (GL_24 _ (by decide +kernel))) rfl rfl rfl (by decide +kernel) ⟨Nat.le_of_ble_eq_true rfl, Nat.le_of_ble_eq_true rfl⟩) rfl rfl (Nat.le_of_ble_eq_true rfl) ⟨Nat.le_of_ble_eq_true rfl, Nat.le_of_ble_eq_true rfl⟩ dX7_laysBox_252 ?_
            rintro x22 s9 ⟨hs9, h9⟩
            subst s9
            replace h := h9
            clear h9
            refine a_istore (pc := 255) a (ls1 := [(10, vI x22), (0, Value.ref (ad 161)), (7, vI x16), (8, vI x17), (9, vI x18)]) dX7_laysBox_255 (by decide) rfl ?_
            refine a_iload (pc := 257) a 0 dX7_laysBox_257 rfl ?_
            refine a_iload (pc := 259) a 3 dX7_laysBox_259 rfl ?_
            refine g_wj1 271 0 0 (fun x24 => [(0, Value.ref (ad 161)), (8, vI x17), (9, vI x18), (10, vI x22)]) (fun x24 => [vI x24]) h ?_ ?_
            · clear h
              intro x24 h
              refine a_istore (pc := 271) a (ls1 := [(7, vI x24), (0, Value.ref (ad 161)), (8, vI x17), (9, vI x18), (10, vI x22)]) dX7_laysBox_271 (by decide) rfl ?_
              refine a_iload (pc := 273) a 4 dX7_laysBox_273 rfl ?_
              refine a_iload (pc := 275) a 2 dX7_laysBox_275 rfl ?_
              refine a_icmp_ge (pc := 277) a h.1 h.2.1 dX7_laysBox_277 (tgt := 285) (by decide) (fun hq => ?_) (fun hq => ?_)
              · replace h := h.2.2.1 hq
                clear hq
                refine a_iload (pc := 285) a 2 dX7_laysBox_285 rfl ?_
                refine a_istore (pc := 287) a (ls1 := [(8, vI x17), (7, vI x24), (0, Value.ref (ad 161)), (9, vI x18), (10, vI x22)]) dX7_laysBox_287 (by decide) rfl ?_
                refine a_iinc (pc := 289) a (ls1 := [(9, vI (x18 + 1)), (8, vI x17), (7, vI x24), (0, Value.ref (ad 161)), (10, vI x22)]) 3 dX7_laysBox_289 rfl (by decide) rfl ?_
                refine a_goto (pc := 292) a dX7_laysBox_292 (tgt := 239) (by decide) ?_
                refine a_sub (ls1 := [(0, Value.ref (ad 161)), (7, vI x24), (8, vI x17), (9, vI (x18 + 1))]) [3, 2, 1, 0] rfl ?_
                exact hag239 x24 x17 (x18 + 1) s21 h
              · replace h := h.2.2.2 hq
                clear hq
                refine a_iload (pc := 280) a 4 dX7_laysBox_280 rfl ?_
                refine a_goto (pc := 282) a dX7_laysBox_282 (tgt := 287) (by decide) ?_
                refine a_istore (pc := 287) a (ls1 := [(8, vI x22), (7, vI x24), (0, Value.ref (ad 161)), (9, vI x18), (10, vI x22)]) dX7_laysBox_287 (by decide) rfl ?_
                refine a_iinc (pc := 289) a (ls1 := [(9, vI (x18 + 1)), (8, vI x22), (7, vI x24), (0, Value.ref (ad 161)), (10, vI x22)]) 3 dX7_laysBox_289 rfl (by decide) rfl ?_
                refine a_goto (pc := 292) a dX7_laysBox_292 (tgt := 239) (by decide) ?_
                refine a_sub (ls1 := [(0, Value.ref (ad 161)), (7, vI x24), (8, vI x22), (9, vI (x18 + 1))]) [3, 2, 1, 0] rfl ?_
                exact hag239 x24 x22 (x18 + 1) s21 h
            · clear h
              intro jj271 hjj271 h
              refine a_icmp_ge (pc := 261) a h.1 h.2.1 dX7_laysBox_261 (tgt := 269) (by decide) (fun hq => ?_) (fun hq => ?_)
              · replace h := h.2.2.1 hq
                clear hq
                refine a_iload (pc := 269) a 2 dX7_laysBox_269 rfl ?_
                refine a_sub (ls1 := [(0, Value.ref (ad 161)), (8, vI x17), (9, vI x18), (10, vI x22)]) [1, 3, 4, 0] rfl ?_
                exact hjj271 x16 h
              · replace h := h.2.2.2 hq
                clear hq
                refine a_iload (pc := 264) a 4 dX7_laysBox_264 rfl ?_
                refine a_goto (pc := 266) a dX7_laysBox_266 (tgt := 271) (by decide) ?_
                refine a_sub (ls1 := [(0, Value.ref (ad 161)), (8, vI x17), (9, vI x18), (10, vI x22)]) [1, 3, 4, 0] rfl ?_
                exact hjj271 x18 h
        · clear h
          intro jj226 hjj226 h
          refine a_icmp_ge (pc := 211) a h.1 h.2.1 dX7_laysBox_211 (tgt := 219) (by decide) (fun hq => ?_) (fun hq => ?_)
          · replace h := h.2.2.1 hq
            clear hq
            refine a_aload_n (pc := 219) a 0 dX7_laysBox_219 rfl rfl ?_
            refine a_getR (pc := 220) a 0 0 rfl tb vc7 w2 w4 (by decide) (by decide) 1 (q := 162) rfl rfl dX7_laysBox_220 ?_
            refine a_bipush (pc := 223) a dX7_laysBox_223 (by decide) ?_
            refine a_iald (pc := 225) a w5 (by decide) (by decide) dX7_laysBox_225 ?_
            refine a_sub (ls1 := [(0, Value.ref (ad 161))]) [0] rfl ?_
            exact hjj226 (s12 162 7) h
          · replace h := h.2.2.2 hq
            clear hq
            refine a_iload (pc := 214) a 1 dX7_laysBox_214 rfl ?_
            refine a_goto (pc := 216) a dX7_laysBox_216 (tgt := 226) (by decide) ?_
            refine a_sub (ls1 := [(0, Value.ref (ad 161))]) [0] rfl ?_
            exact hjj226 x9 h
      · clear h
        intro jj198 hjj198 h
        refine a_icmp_ge (pc := 183) a h.1 h.2.1 dX7_laysBox_183 (tgt := 191) (by decide) (fun hq => ?_) (fun hq => ?_)
        · replace h := h.2.2.1 hq
          clear hq
          refine a_aload_n (pc := 191) a 2 dX7_laysBox_191 rfl rfl ?_
          refine a_getR (pc := 192) a 0 0 rfl tb vc7 w2 w4 (by decide) (by decide) 1 (q := 162) rfl rfl dX7_laysBox_192 ?_
          refine a_bipush (pc := 195) a dX7_laysBox_195 (by decide) ?_
          refine a_iald (pc := 197) a w5 (by decide) (by decide) dX7_laysBox_197 ?_
          refine a_sub (ls1 := [(0, Value.ref (ad 161)), (6, vI x9)]) [2, 0] rfl ?_
          exact hjj198 (s7 162 6) h
        · replace h := h.2.2.2 hq
          clear hq
          refine a_iload (pc := 186) a 1 dX7_laysBox_186 rfl ?_
          refine a_goto (pc := 188) a dX7_laysBox_188 (tgt := 198) (by decide) ?_
          refine a_sub (ls1 := [(0, Value.ref (ad 161)), (6, vI x9)]) [2, 0] rfl ?_
          exact hjj198 x8 h
    · replace h := h.2.2.2 hq
      clear hq
      refine a_aload_n (pc := 53) a 0 dX7_laysBox_53 rfl rfl ?_
      refine a_getR (pc := 54) a 9 9 rfl tb vc7 w2 w8 (by decide) (by decide) 7 (q := 168) rfl rfl dX7_laysBox_54 ?_
      refine a_iconst (pc := 57) a dX7_laysBox_57 ?_
      refine a_iload (pc := 58) a 5 dX7_laysBox_58 rfl ?_
      refine a_imul (pc := 60) a dX7_laysBox_60 ?_
      refine a_iald (pc := 61) a w9 (by decide) h.1 dX7_laysBox_61 ?_
      replace h := h.2
      refine a_iconst (pc := 62) a dX7_laysBox_62 ?_
      refine g_wj1 71 0 0 (fun x26 => [(0, Value.ref (ad 161)), (1, vI x2), (2, vI x3), (3, vI x4), (4, vI x5), (5, vI x6)]) (fun x26 => [vI x26]) h ?_ ?_
      · clear h
        intro x26 h
        refine a_istore (pc := 71) a (ls1 := [(6, vI x26), (0, Value.ref (ad 161)), (1, vI x2), (2, vI x3), (3, vI x4), (4, vI x5), (5, vI x6)]) dX7_laysBox_71 (by decide) rfl ?_
        refine a_iload_n (pc := 73) a 3 dX7_laysBox_73 rfl rfl ?_
        refine a_aload_n (pc := 74) a 1 dX7_laysBox_74 rfl rfl ?_
        refine a_getR (pc := 75) a 0 0 rfl tb vc7 w2 w4 (by decide) (by decide) 1 (q := 162) rfl rfl dX7_laysBox_75 ?_
        refine a_iconst (pc := 78) a dX7_laysBox_78 ?_
        refine a_iald (pc := 79) a w5 (by decide) (by decide) dX7_laysBox_79 ?_
        refine a_iconst (pc := 80) a dX7_laysBox_80 ?_
        refine a_isub (pc := 81) a dX7_laysBox_81 ?_
        refine g_wj2 111 0 0 (fun x29 x30 => [(0, Value.ref (ad 161)), (1, vI x2), (2, vI x29), (3, vI x30), (4, vI x5), (5, vI x6)]) (fun x29 x30 => []) h ?_ ?_
        · clear h
          intro x29 x30 h
          refine a_aload_n (pc := 111) a 0 dX7_laysBox_111 rfl rfl ?_
          refine a_getR (pc := 112) a 11 11 rfl tb vc7 w2 w10 (by decide) (by decide) 9 (q := 170) rfl rfl dX7_laysBox_112 ?_
          refine a_iload (pc := 115) a 5 dX7_laysBox_115 rfl ?_
          refine a_iload_n (pc := 117) a 2 dX7_laysBox_117 rfl rfl ?_
          refine a_iast (pc := 118) a w11 (by decide) h.1 dX7_laysBox_118 ?_
          replace h := h.2
          refine a_nmS (fun s31 hx => ?_)
          replace h := h s31 hx
          clear hx
          refine a_aload_n (pc := 119) a 0 dX7_laysBox_119 rfl rfl ?_
          refine a_getR (pc := 120) a 12 12 rfl tb vc7 w2 w12 (by decide) (by decide) 10 (q := 171) rfl rfl dX7_laysBox_120 ?_
          refine a_iload (pc := 123) a 5 dX7_laysBox_123 rfl ?_
          refine a_iload_n (pc := 125) a 3 dX7_laysBox_125 rfl rfl ?_
          refine a_iast (pc := 126) a w13 (by decide) h.1 dX7_laysBox_126 ?_
          replace h := h.2
          refine a_nmS (fun s32 hx => ?_)
          replace h := h s32 hx
          clear hx
          refine a_iinc (pc := 127) a (ls1 := [(3, vI (x30 + 1)), (0, Value.ref (ad 161)), (1, vI x2), (2, vI x29), (4, vI x5), (5, vI x6)]) 3 dX7_laysBox_127 rfl (by decide) rfl ?_
          refine a_iload_n (pc := 130) a 0 dX7_laysBox_130 rfl rfl ?_
          refine a_iload (pc := 131) a 4 dX7_laysBox_131 rfl ?_
          refine a_icmp_le (pc := 133) a h.1 h.2.1 dX7_laysBox_133 (tgt := 140) (by decide) (fun hq => ?_) (fun hq => ?_)
          · replace h := h.2.2.1 hq
            clear hq
            refine a_iload (pc := 140) a 4 dX7_laysBox_140 rfl ?_
            refine a_istore (pc := 142) a (ls1 := [(4, vI x5), (3, vI (x30 + 1)), (0, Value.ref (ad 161)), (1, vI x2), (2, vI x29), (5, vI x6)]) dX7_laysBox_142 (by decide) rfl ?_
            refine a_iinc (pc := 144) a (ls1 := [(5, vI (x6 + 1)), (4, vI x5), (3, vI (x30 + 1)), (0, Value.ref (ad 161)), (1, vI x2), (2, vI x29)]) 5 dX7_laysBox_144 rfl (by decide) rfl ?_
            refine a_goto (pc := 147) a dX7_laysBox_147 (tgt := 44) (by decide) ?_
            refine a_sub (ls1 := [(0, Value.ref (ad 161)), (1, vI x2), (2, vI x29), (3, vI (x30 + 1)), (4, vI x5), (5, vI (x6 + 1))]) [3, 4, 5, 2, 1, 0] rfl ?_
            exact hag44 x29 (x30 + 1) x5 (x6 + 1) s32 h
          · replace h := h.2.2.2 hq
            clear hq
            refine a_iload_n (pc := 136) a 0 dX7_laysBox_136 rfl rfl ?_
            refine a_goto (pc := 137) a dX7_laysBox_137 (tgt := 142) (by decide) ?_
            refine a_nm (fun x33 hx => ?_)
            replace h := h x33 hx
            clear hx
            refine a_istore (pc := 142) a (ls1 := [(4, vI x33), (3, vI (x30 + 1)), (0, Value.ref (ad 161)), (1, vI x2), (2, vI x29), (5, vI x6)]) dX7_laysBox_142 (by decide) rfl ?_
            refine a_iinc (pc := 144) a (ls1 := [(5, vI (x6 + 1)), (4, vI x33), (3, vI (x30 + 1)), (0, Value.ref (ad 161)), (1, vI x2), (2, vI x29)]) 5 dX7_laysBox_144 rfl (by decide) rfl ?_
            refine a_goto (pc := 147) a dX7_laysBox_147 (tgt := 44) (by decide) ?_
            refine a_sub (ls1 := [(0, Value.ref (ad 161)), (1, vI x2), (2, vI x29), (3, vI (x30 + 1)), (4, vI x33), (5, vI (x6 + 1))]) [3, 4, 5, 2, 1, 0] rfl ?_
            exact hag44 x29 (x30 + 1) x33 (x6 + 1) s32 h
        · clear h
          intro jj111 hjj111 h
          refine a_icmp_ge (pc := 82) a h.1 h.2.1 dX7_laysBox_82 (tgt := 111) (by decide) (fun hq => ?_) (fun hq => ?_)
          · replace h := h.2.2.1 hq
            clear hq
            refine a_sub (ls1 := [(0, Value.ref (ad 161)), (1, vI x2), (2, vI x3), (3, vI x4), (4, vI x5), (5, vI x6)]) [1, 2, 3, 4, 5, 6] rfl ?_
            exact hjj111 x3 x4 h
          · replace h := h.2.2.2 hq
            clear hq
            refine a_iload_n (pc := 85) a 4 dX7_laysBox_85 rfl rfl ?_
            refine a_iload_n (pc := 86) a 2 dX7_laysBox_86 rfl rfl ?_
            refine g_wj0 106 0 0 [(0, Value.ref (ad 161)), (1, vI x2), (2, vI x3), (4, vI x5), (5, vI x6)] [] h ?_ ?_
            · clear h
              intro  h
              refine a_iinc (pc := 106) a (ls1 := [(2, vI (x3 + 1)), (0, Value.ref (ad 161)), (1, vI x2), (4, vI x5), (5, vI x6)]) 2 dX7_laysBox_106 rfl (by decide) rfl ?_
              refine a_iconst (pc := 109) a dX7_laysBox_109 ?_
              refine a_istore_n (pc := 110) a (ls1 := [(3, vI 0), (2, vI (x3 + 1)), (0, Value.ref (ad 161)), (1, vI x2), (4, vI x5), (5, vI x6)]) dX7_laysBox_110 rfl (by decide) rfl ?_
              refine a_sub (ls1 := [(0, Value.ref (ad 161)), (1, vI x2), (2, vI (x3 + 1)), (3, vI 0), (4, vI x5), (5, vI x6)]) [2, 3, 1, 0, 4, 5] rfl ?_
              exact hjj111 (x3 + 1) 0 h
            · clear h
              intro jj106 hjj106 h
              refine a_icmp_eq (pc := 87) a h.1 h.2.1 dX7_laysBox_87 (tgt := 106) (by decide) (fun hq => ?_) (fun hq => ?_)
              · replace h := h.2.2.1 hq
                clear hq
                refine a_sub (ls1 := [(0, Value.ref (ad 161)), (1, vI x2), (2, vI x3), (4, vI x5), (5, vI x6)]) [1, 2, 3, 5, 6] rfl ?_
                exact hjj106  h
              · replace h := h.2.2.2 hq
                clear hq
                refine a_iload (pc := 90) a 0 dX7_laysBox_90 rfl ?_
                refine a_if_eq (pc := 92) a h.1 dX7_laysBox_92 (tgt := 111) (by decide) (fun hq => ?_) (fun hq => ?_)
                · replace h := h.2.1 hq
                  clear hq
                  refine a_sub (ls1 := [(0, Value.ref (ad 161)), (1, vI x2), (2, vI x3), (3, vI x4), (4, vI x5), (5, vI x6)]) [1, 2, 3, 4, 5, 6] rfl ?_
                  exact hjj111 x3 x4 h
                · replace h := h.2.2 hq
                  clear hq
                  refine a_iload_n (pc := 95) a 4 dX7_laysBox_95 rfl rfl ?_
                  refine a_if_le (pc := 96) a h.1 dX7_laysBox_96 (tgt := 111) (by decide) (fun hq => ?_) (fun hq => ?_)
                  · replace h := h.2.1 hq
                    clear hq
                    refine a_sub (ls1 := [(0, Value.ref (ad 161)), (1, vI x2), (2, vI x3), (3, vI x4), (4, vI x5), (5, vI x6)]) [1, 2, 3, 4, 5, 6] rfl ?_
                    exact hjj111 x3 x4 h
                  · replace h := h.2.2 hq
                    clear hq
                    refine a_iload_n (pc := 99) a 4 dX7_laysBox_99 rfl rfl ?_
                    refine a_iload_n (pc := 100) a 2 dX7_laysBox_100 rfl rfl ?_
                    refine a_iconst (pc := 101) a dX7_laysBox_101 ?_
                    refine a_isub (pc := 102) a dX7_laysBox_102 ?_
                    refine a_icmp_ne (pc := 103) a h.1 h.2.1 dX7_laysBox_103 (tgt := 111) (by decide) (fun hq => ?_) (fun hq => ?_)
                    · replace h := h.2.2.1 hq
                      clear hq
                      refine a_sub (ls1 := [(0, Value.ref (ad 161)), (1, vI x2), (2, vI x3), (3, vI x4), (4, vI x5), (5, vI x6)]) [1, 2, 3, 4, 5, 6] rfl ?_
                      exact hjj111 x3 x4 h
                    · replace h := h.2.2.2 hq
                      clear hq
                      refine a_sub (ls1 := [(0, Value.ref (ad 161)), (1, vI x2), (2, vI x3), (4, vI x5), (5, vI x6)]) [1, 2, 3, 5, 6] rfl ?_
                      exact hjj106  h
      · clear h
        intro jj71 hjj71 h
        refine a_icmp_ne (pc := 63) a h.1 ⟨by decide, by decide⟩ dX7_laysBox_63 (tgt := 70) (by decide) (fun hq => ?_) (fun hq => ?_)
        · replace h := h.2.1 hq
          clear hq
          refine a_iconst (pc := 70) a dX7_laysBox_70 ?_
          exact hjj71 0 h
        · replace h := h.2.2 hq
          clear hq
          refine a_iconst (pc := 66) a dX7_laysBox_66 ?_
          refine a_goto (pc := 67) a dX7_laysBox_67 (tgt := 71) (by decide) ?_
          exact hjj71 1 h
  · replace h := h.2.2 hq
    clear hq
    exact e_v (pc := 12) a hr dX7_laysBox_12 h

set_option maxRecDepth 100000 in
set_option maxHeartbeats 4000000 in
theorem c_X7_areSame {l : Launch} {D : va_G} {X : XI} {ad : Nat → Nat} (hinj : adI ad) (hl0 : l.stackTraces = false)   {σ : St} {K : Int → Prop} (h : f_X7_areSame σ K) (sz : Nat) : Met l yX7_areSame (WW (.code yX7_areSame cX7_areSame 3 (some .boolean))) { frames := 0, cells := 0, slots := 0, locals := 0 } (va_Pc [Value.ref (ad 161)] (WD D X ad σ sz)) (QI D X ad sz (fun r τ => τ = σ ∧ K r)) 0 0 (AA ad sz) := by
  refine a_start (cc := cX7_areSame) (maxL := 3) (ret := (some .boolean)) (own := RX7) [Value.ref (ad 161)] (by decide) rfl rfl (Nat.le_of_ble_eq_true rfl) hinj hl0 ?_
  intro p e s m below meth c a hr hsz
  subst hsz
  have hts := a.1.2.2.2.2
  have tb : tyc 161 (11, 0) := ⟨by decide, rfl⟩
  have w1 := hts (Cond.fieldLink RX7 83 "SightLegendModel" "lines" "I") (List.mem_cons_of_mem _ (GL_22 _ (by decide +kernel)))
  have w2 : ∀ w ∈ u_ws RX7 TX7 29, w ∈ WW (.code yX7_areSame cX7_areSame 3 (some .boolean)) := fun w h => List.mem_cons_of_mem _ (inlX7 w h)
  have w3 := hts (Cond.fieldLink RX7 141 "SightLegendModel" "oldLines" "I") (List.mem_cons_of_mem _ (GL_22 _ (by decide +kernel)))
  have w4 := hts (Cond.fieldLink RX7 29 "SightLegendModel" "line" "[I") (List.mem_cons_of_mem _ (GL_5 _ (by decide +kernel)))
  have w5 : tyc 168 (0, 400) := ty_of (d := 7) (t1 := (0, 400)) (by decide +kernel) rfl tb
  have w6 := hts (Cond.fieldLink RX7 32 "SightLegendModel" "old" "[I") (List.mem_cons_of_mem _ (GL_5 _ (by decide +kernel)))
  have w7 : tyc 169 (0, 400) := ty_of (d := 8) (t1 := (0, 400)) (by decide +kernel) rfl tb
  unfold f_X7_areSame at h
  refine a_sub (ls1 := [(0, Value.ref (ad 161))]) [0] rfl ?_
  refine a_aload_n (pc := 0) a 0 dX7_areSame_0 rfl rfl ?_
  refine a_getI (pc := 1) a 13 13 rfl tb vc7 w2 w1 (by decide) (by decide) rfl dX7_areSame_1 ?_
  refine a_aload_n (pc := 4) a 0 dX7_areSame_4 rfl rfl ?_
  refine a_getI (pc := 5) a 14 14 rfl tb vc7 w2 w3 (by decide) (by decide) rfl dX7_areSame_5 ?_
  refine g_wj1 16 0 0 (fun x2 => [(0, Value.ref (ad 161))]) (fun x2 => [vI x2]) h ?_ ?_
  · clear h
    intro x2 h
    refine a_istore_n (pc := 16) a (ls1 := [(1, vI x2), (0, Value.ref (ad 161))]) dX7_areSame_16 rfl (by decide) rfl ?_
    refine a_iconst (pc := 17) a dX7_areSame_17 ?_
    refine a_istore_n (pc := 18) a (ls1 := [(2, vI 0), (1, vI x2), (0, Value.ref (ad 161))]) dX7_areSame_18 rfl (by decide) rfl ?_
    refine a_sub (ls1 := [(0, Value.ref (ad 161)), (1, vI x2), (2, vI 0)]) [2, 1, 0] rfl ?_
    refine g_wl2 (fun x3 x4 => [(0, Value.ref (ad 161)), (1, vI x3), (2, vI x4)]) h ?_
    clear h
    intro x3 x4 ag19 hag19 h
    refine a_iload_n (pc := 19) a 2 dX7_areSame_19 rfl rfl ?_
    refine a_iconst (pc := 20) a dX7_areSame_20 ?_
    refine a_aload_n (pc := 21) a 0 dX7_areSame_21 rfl rfl ?_
    refine a_getI (pc := 22) a 13 13 rfl tb vc7 w2 w1 (by decide) (by decide) rfl dX7_areSame_22 ?_
    refine a_imul (pc := 25) a dX7_areSame_25 ?_
    refine a_icmp_ge (pc := 26) a h.1 h.2.1 dX7_areSame_26 (tgt := 60) (by decide) (fun hq => ?_) (fun hq => ?_)
    · replace h := h.2.2.1 hq
      clear hq
      refine a_iload_n (pc := 60) a 1 dX7_areSame_60 rfl rfl ?_
      exact e_z (pc := 61) a hr h.1 dX7_areSame_61 ⟨rfl, h.2⟩
    · replace h := h.2.2.2 hq
      clear hq
      refine a_iload_n (pc := 29) a 1 dX7_areSame_29 rfl rfl ?_
      refine a_if_eq (pc := 30) a h.1 dX7_areSame_30 (tgt := 60) (by decide) (fun hq => ?_) (fun hq => ?_)
      · replace h := h.2.1 hq
        clear hq
        refine a_iload_n (pc := 60) a 1 dX7_areSame_60 rfl rfl ?_
        exact e_z (pc := 61) a hr h.1 dX7_areSame_61 ⟨rfl, h.2⟩
      · replace h := h.2.2 hq
        clear hq
        refine a_aload_n (pc := 33) a 0 dX7_areSame_33 rfl rfl ?_
        refine a_getR (pc := 34) a 9 9 rfl tb vc7 w2 w4 (by decide) (by decide) 7 (q := 168) rfl rfl dX7_areSame_34 ?_
        refine a_iload_n (pc := 37) a 2 dX7_areSame_37 rfl rfl ?_
        refine a_iald (pc := 38) a w5 (by decide) h.1 dX7_areSame_38 ?_
        replace h := h.2
        refine a_aload_n (pc := 39) a 0 dX7_areSame_39 rfl rfl ?_
        refine a_getR (pc := 40) a 10 10 rfl tb vc7 w2 w6 (by decide) (by decide) 8 (q := 169) rfl rfl dX7_areSame_40 ?_
        refine a_iload_n (pc := 43) a 2 dX7_areSame_43 rfl rfl ?_
        refine a_iald (pc := 44) a w7 (by decide) h.1 dX7_areSame_44 ?_
        replace h := h.2
        refine a_icmp_ne (pc := 45) a h.1 h.2.1 dX7_areSame_45 (tgt := 52) (by decide) (fun hq => ?_) (fun hq => ?_)
        · replace h := h.2.2.1 hq
          clear hq
          refine a_iconst (pc := 52) a dX7_areSame_52 ?_
          refine a_istore_n (pc := 53) a (ls1 := [(1, vI 0), (0, Value.ref (ad 161)), (2, vI x4)]) dX7_areSame_53 rfl (by decide) rfl ?_
          refine a_iinc (pc := 54) a (ls1 := [(2, vI (x4 + 1)), (1, vI 0), (0, Value.ref (ad 161))]) 2 dX7_areSame_54 rfl (by decide) rfl ?_
          refine a_goto (pc := 57) a dX7_areSame_57 (tgt := 19) (by decide) ?_
          refine a_sub (ls1 := [(0, Value.ref (ad 161)), (1, vI 0), (2, vI (x4 + 1))]) [2, 1, 0] rfl ?_
          exact hag19 0 (x4 + 1) h
        · replace h := h.2.2.2 hq
          clear hq
          refine a_iconst (pc := 48) a dX7_areSame_48 ?_
          refine a_goto (pc := 49) a dX7_areSame_49 (tgt := 53) (by decide) ?_
          refine a_istore_n (pc := 53) a (ls1 := [(1, vI 1), (0, Value.ref (ad 161)), (2, vI x4)]) dX7_areSame_53 rfl (by decide) rfl ?_
          refine a_iinc (pc := 54) a (ls1 := [(2, vI (x4 + 1)), (1, vI 1), (0, Value.ref (ad 161))]) 2 dX7_areSame_54 rfl (by decide) rfl ?_
          refine a_goto (pc := 57) a dX7_areSame_57 (tgt := 19) (by decide) ?_
          refine a_sub (ls1 := [(0, Value.ref (ad 161)), (1, vI 1), (2, vI (x4 + 1))]) [2, 1, 0] rfl ?_
          exact hag19 1 (x4 + 1) h
  · clear h
    intro jj16 hjj16 h
    refine a_icmp_ne (pc := 8) a h.1 h.2.1 dX7_areSame_8 (tgt := 15) (by decide) (fun hq => ?_) (fun hq => ?_)
    · replace h := h.2.2.1 hq
      clear hq
      refine a_iconst (pc := 15) a dX7_areSame_15 ?_
      exact hjj16 0 h
    · replace h := h.2.2.2 hq
      clear hq
      refine a_iconst (pc := 11) a dX7_areSame_11 ?_
      refine a_goto (pc := 12) a dX7_areSame_12 (tgt := 16) (by decide) ?_
      exact hjj16 1 h

set_option maxRecDepth 100000 in
set_option maxHeartbeats 4000000 in
theorem c_X7_round {l : Launch} {D : va_G} {X : XI} {ad : Nat → Nat} (hinj : adI ad) (hl0 : l.stackTraces = false)   {σ : St} {K : St → Prop} (h : f_X7_round σ K) (sz : Nat) : Met l yX7_round (WW (.code yX7_round cX7_round 2 none)) { frames := 6, cells := 0, slots := 0, locals := 141 } (va_Pc [Value.ref (ad 161)] (WD D X ad σ sz)) (QV D X ad sz K) 0 0 (AA ad sz) := by
  refine a_start (cc := cX7_round) (maxL := 2) (ret := none) (own := RX7) [Value.ref (ad 161)] (by decide) rfl rfl (Nat.le_of_ble_eq_true rfl) hinj hl0 ?_
  intro p e s m below meth c a hr hsz
  subst hsz
  have hts := a.1.2.2.2.2
  have tb : tyc 161 (11, 0) := ⟨by decide, rfl⟩
  have w1 := hts (Cond.fieldLink RX7 83 "SightLegendModel" "lines" "I") (List.mem_cons_of_mem _ (GL_22 _ (by decide +kernel)))
  have w2 : ∀ w ∈ u_ws RX7 TX7 29, w ∈ WW (.code yX7_round cX7_round 2 none) := fun w h => List.mem_cons_of_mem _ (inlX7 w h)
  have w3 := hts (Cond.fieldLink RX7 141 "SightLegendModel" "oldLines" "I") (List.mem_cons_of_mem _ (GL_22 _ (by decide +kernel)))
  have w4 := hts (Cond.fieldLink RX7 150 "SightLegendModel" "rounds" "I") (List.mem_cons_of_mem _ (GL_22 _ (by decide +kernel)))
  have w5 := hts (Cond.fieldLink RX7 32 "SightLegendModel" "old" "[I") (List.mem_cons_of_mem _ (GL_5 _ (by decide +kernel)))
  have w6 : tyc 169 (0, 400) := ty_of (d := 8) (t1 := (0, 400)) (by decide +kernel) rfl tb
  have w7 := hts (Cond.fieldLink RX7 29 "SightLegendModel" "line" "[I") (List.mem_cons_of_mem _ (GL_5 _ (by decide +kernel)))
  have w8 : tyc 168 (0, 400) := ty_of (d := 7) (t1 := (0, 400)) (by decide +kernel) rfl tb
  have w9 := hts (Cond.fieldLink RX7 25 "SightLegendModel" "sight" "[Z") (List.mem_cons_of_mem _ (GL_5 _ (by decide +kernel)))
  have w10 : tyc 167 (1, 40) := ty_of (d := 6) (t1 := (1, 40)) (by decide +kernel) rfl tb
  have w11 := hts (Cond.fieldLink RX7 7 "SightLegendModel" "s" "[I") (List.mem_cons_of_mem _ (GL_5 _ (by decide +kernel)))
  have w12 : tyc 162 (0, 311) := ty_of (d := 1) (t1 := (0, 311)) (by decide +kernel) rfl tb
  unfold f_X7_round at h
  refine a_sub (ls1 := [(0, Value.ref (ad 161))]) [0] rfl ?_
  refine a_iconst (pc := 0) a dX7_round_0 ?_
  refine a_istore_n (pc := 1) a (ls1 := [(1, vI 0), (0, Value.ref (ad 161))]) dX7_round_1 rfl (by decide) rfl ?_
  refine a_sub (ls1 := [(0, Value.ref (ad 161)), (1, vI 0)]) [1, 0] rfl ?_
  refine g_wl1s (fun x1 => [(0, Value.ref (ad 161)), (1, vI x1)]) h ?_
  clear h
  intro x1 s2 ag2 hag2 h
  refine a_iload_n (pc := 2) a 1 dX7_round_2 rfl rfl ?_
  refine a_bipush (pc := 3) a dX7_round_3 (by decide) ?_
  refine a_icmp_ge (pc := 5) a h.1 ⟨by decide, by decide⟩ dX7_round_5 (tgt := 52) (by decide) (fun hq => ?_) (fun hq => ?_)
  · replace h := h.2.1 hq
    clear hq
    refine a_iconst (pc := 52) a dX7_round_52 ?_
    refine a_istore_n (pc := 53) a (ls1 := [(1, vI 0), (0, Value.ref (ad 161))]) dX7_round_53 rfl (by decide) rfl ?_
    refine a_sub (ls1 := [(0, Value.ref (ad 161)), (1, vI 0)]) [1, 0] rfl ?_
    refine g_wl1s (fun x3 => [(0, Value.ref (ad 161)), (1, vI x3)]) h ?_
    clear h
    intro x3 s4 ag54 hag54 h
    refine a_iload_n (pc := 54) a 1 dX7_round_54 rfl rfl ?_
    refine a_iconst (pc := 55) a dX7_round_55 ?_
    refine a_aload_n (pc := 56) a 0 dX7_round_56 rfl rfl ?_
    refine a_getI (pc := 57) a 13 13 rfl tb vc7 w2 w1 (by decide) (by decide) rfl dX7_round_57 ?_
    refine a_imul (pc := 60) a dX7_round_60 ?_
    refine a_icmp_ge (pc := 61) a h.1 h.2.1 dX7_round_61 (tgt := 82) (by decide) (fun hq => ?_) (fun hq => ?_)
    · replace h := h.2.2.1 hq
      clear hq
      refine a_aload_n (pc := 82) a 0 dX7_round_82 rfl rfl ?_
      refine a_aload_n (pc := 83) a 0 dX7_round_83 rfl rfl ?_
      refine a_getI (pc := 84) a 13 13 rfl tb vc7 w2 w1 (by decide) (by decide) rfl dX7_round_84 ?_
      refine a_putI (pc := 87) a 14 14 rfl tb vc7 w2 w3 (by decide) (by decide) tyX7 tyX7_ok nmX7 rfl rfl (by decide +kernel) dX7_round_87 ?_
      refine a_nmS (fun s5 hx => ?_)
      replace h := h s5 hx
      clear hx
      refine a_aload_n (pc := 90) a 0 dX7_round_90 rfl rfl ?_
      refine a_cvv (pc := 91) a (As := []) (rest := []) tb vc7 (fun sz => c_X7_listsLines hinj hl0  h sz) (cwV 0 hts (gl_V (GL_22 _ (by decide +kernel)) (GL_22 _ (by decide +kernel)) (GL_22 _ (by decide +kernel)) (GL_1 _ (by decide +kernel)) (GL_22 _ (by decide +kernel))) rfl rfl rfl (by decide +kernel) ⟨Nat.le_of_ble_eq_true rfl, Nat.le_of_ble_eq_true rfl⟩) rfl rfl (Nat.le_of_ble_eq_true rfl) ⟨Nat.le_of_ble_eq_true rfl, Nat.le_of_ble_eq_true rfl⟩ dX7_round_91 ?_
      clear h
      intro s6 h
      refine a_aload_n (pc := 94) a 0 dX7_round_94 rfl rfl ?_
      refine a_cvv (pc := 95) a (As := []) (rest := []) tb vc7 (fun sz => c_X7_laysBox hinj hl0  h sz) (cwV 0 hts (gl_V (GL_24 _ (by decide +kernel)) (GL_24 _ (by decide +kernel)) (GL_24 _ (by decide +kernel)) (GL_1 _ (by decide +kernel)) (GL_24 _ (by decide +kernel))) rfl rfl rfl (by decide +kernel) ⟨Nat.le_of_ble_eq_true rfl, Nat.le_of_ble_eq_true rfl⟩) rfl rfl (Nat.le_of_ble_eq_true rfl) ⟨Nat.le_of_ble_eq_true rfl, Nat.le_of_ble_eq_true rfl⟩ dX7_round_95 ?_
      clear h
      intro s7 h
      refine a_aload_n (pc := 98) a 0 dX7_round_98 rfl rfl ?_
      refine a_dup (pc := 99) a rfl dX7_round_99 ?_
      refine a_getI (pc := 100) a 16 16 rfl tb vc7 w2 w4 (by decide) (by decide) rfl dX7_round_100 ?_
      refine a_iconst (pc := 103) a dX7_round_103 ?_
      refine a_iadd (pc := 104) a dX7_round_104 ?_
      refine a_putI (pc := 105) a 16 16 rfl tb vc7 w2 w4 (by decide) (by decide) tyX7 tyX7_ok nmX7 rfl rfl (by decide +kernel) dX7_round_105 ?_
      refine a_nmS (fun s8 hx => ?_)
      replace h := h s8 hx
      clear hx
      exact e_v (pc := 108) a hr dX7_round_108 h
    · replace h := h.2.2.2 hq
      clear hq
      refine a_aload_n (pc := 64) a 0 dX7_round_64 rfl rfl ?_
      refine a_getR (pc := 65) a 10 10 rfl tb vc7 w2 w5 (by decide) (by decide) 8 (q := 169) rfl rfl dX7_round_65 ?_
      refine a_iload_n (pc := 68) a 1 dX7_round_68 rfl rfl ?_
      refine a_aload_n (pc := 69) a 0 dX7_round_69 rfl rfl ?_
      refine a_getR (pc := 70) a 9 9 rfl tb vc7 w2 w7 (by decide) (by decide) 7 (q := 168) rfl rfl dX7_round_70 ?_
      refine a_iload_n (pc := 73) a 1 dX7_round_73 rfl rfl ?_
      refine a_iald (pc := 74) a w8 (by decide) h.1 dX7_round_74 ?_
      replace h := h.2
      refine a_iast (pc := 75) a w6 (by decide) h.1 dX7_round_75 ?_
      replace h := h.2
      refine a_nmS (fun s9 hx => ?_)
      replace h := h s9 hx
      clear hx
      refine a_iinc (pc := 76) a (ls1 := [(1, vI (x3 + 1)), (0, Value.ref (ad 161))]) 1 dX7_round_76 rfl (by decide) rfl ?_
      refine a_goto (pc := 79) a dX7_round_79 (tgt := 54) (by decide) ?_
      refine a_sub (ls1 := [(0, Value.ref (ad 161)), (1, vI (x3 + 1))]) [1, 0] rfl ?_
      exact hag54 (x3 + 1) s9 h
  · replace h := h.2.2 hq
    clear hq
    refine a_aload_n (pc := 8) a 0 dX7_round_8 rfl rfl ?_
    refine a_getR (pc := 9) a 8 8 rfl tb vc7 w2 w9 (by decide) (by decide) 6 (q := 167) rfl rfl dX7_round_9 ?_
    refine a_iload_n (pc := 12) a 1 dX7_round_12 rfl rfl ?_
    refine a_iload_n (pc := 13) a 1 dX7_round_13 rfl rfl ?_
    refine a_aload_n (pc := 14) a 0 dX7_round_14 rfl rfl ?_
    refine a_getR (pc := 15) a 0 0 rfl tb vc7 w2 w11 (by decide) (by decide) 1 (q := 162) rfl rfl dX7_round_15 ?_
    refine a_bipush (pc := 18) a dX7_round_18 (by decide) ?_
    refine a_iald (pc := 20) a w12 (by decide) (by decide) dX7_round_20 ?_
    refine a_icmp_ge (pc := 21) a h.1 h.2.1 dX7_round_21 (tgt := 44) (by decide) (fun hq => ?_) (fun hq => ?_)
    · replace h := h.2.2.1 hq
      clear hq
      refine a_iconst (pc := 44) a dX7_round_44 ?_
      refine a_zast (pc := 45) a w10 (by decide) h.1 (by decide) dX7_round_45 ?_
      replace h := h.2
      refine a_nmS (fun s10 hx => ?_)
      replace h := h s10 hx
      clear hx
      refine a_iinc (pc := 46) a (ls1 := [(1, vI (x1 + 1)), (0, Value.ref (ad 161))]) 1 dX7_round_46 rfl (by decide) rfl ?_
      refine a_goto (pc := 49) a dX7_round_49 (tgt := 2) (by decide) ?_
      refine a_sub (ls1 := [(0, Value.ref (ad 161)), (1, vI (x1 + 1))]) [1, 0] rfl ?_
      exact hag2 (x1 + 1) s10 h
    · replace h := h.2.2.2 hq
      clear hq
      refine a_aload_n (pc := 24) a 0 dX7_round_24 rfl rfl ?_
      refine a_iload_n (pc := 25) a 1 dX7_round_25 rfl rfl ?_
      refine a_cvi (pc := 26) a (As := [vI x1]) (rest := [vI x1, Value.ref (ad 167)]) tb vc7 (fun sz => c_X7_isShown hinj hl0  h sz) (cwV 1 hts (gl_V (GL_12 _ (by decide +kernel)) (GL_12 _ (by decide +kernel)) (GL_12 _ (by decide +kernel)) (GL_1 _ (by decide +kernel)) (GL_12 _ (by decide +kernel))) rfl rfl rfl (by decide +kernel) ⟨Nat.le_of_ble_eq_true rfl, Nat.le_of_ble_eq_true rfl⟩) rfl rfl (Nat.le_of_ble_eq_true rfl) ⟨Nat.le_of_ble_eq_true rfl, Nat.le_of_ble_eq_true rfl⟩ dX7_round_26 ?_
      rintro x11 s9 ⟨hs9, h9⟩
      subst s9
      replace h := h9
      clear h9
      refine a_if_eq (pc := 29) a h.1 dX7_round_29 (tgt := 44) (by decide) (fun hq => ?_) (fun hq => ?_)
      · replace h := h.2.1 hq
        clear hq
        refine a_iconst (pc := 44) a dX7_round_44 ?_
        refine a_zast (pc := 45) a w10 (by decide) h.1 (by decide) dX7_round_45 ?_
        replace h := h.2
        refine a_nmS (fun s12 hx => ?_)
        replace h := h s12 hx
        clear hx
        refine a_iinc (pc := 46) a (ls1 := [(1, vI (x1 + 1)), (0, Value.ref (ad 161))]) 1 dX7_round_46 rfl (by decide) rfl ?_
        refine a_goto (pc := 49) a dX7_round_49 (tgt := 2) (by decide) ?_
        refine a_sub (ls1 := [(0, Value.ref (ad 161)), (1, vI (x1 + 1))]) [1, 0] rfl ?_
        exact hag2 (x1 + 1) s12 h
      · replace h := h.2.2 hq
        clear hq
        refine a_aload_n (pc := 32) a 0 dX7_round_32 rfl rfl ?_
        refine a_iload_n (pc := 33) a 1 dX7_round_33 rfl rfl ?_
        refine a_cvi (pc := 34) a (As := [vI x1]) (rest := [vI x1, Value.ref (ad 167)]) tb vc7 (fun sz => c_X7_isCovered hinj hl0  h sz) (cwV 1 hts (gl_V (GL_22 _ (by decide +kernel)) (GL_22 _ (by decide +kernel)) (GL_22 _ (by decide +kernel)) (GL_1 _ (by decide +kernel)) (GL_22 _ (by decide +kernel))) rfl rfl rfl (by decide +kernel) ⟨Nat.le_of_ble_eq_true rfl, Nat.le_of_ble_eq_true rfl⟩) rfl rfl (Nat.le_of_ble_eq_true rfl) ⟨Nat.le_of_ble_eq_true rfl, Nat.le_of_ble_eq_true rfl⟩ dX7_round_34 ?_
        rintro x13 s9 ⟨hs9, h9⟩
        subst s9
        replace h := h9
        clear h9
        refine a_if_ne (pc := 37) a h.1 dX7_round_37 (tgt := 44) (by decide) (fun hq => ?_) (fun hq => ?_)
        · replace h := h.2.1 hq
          clear hq
          refine a_iconst (pc := 44) a dX7_round_44 ?_
          refine a_zast (pc := 45) a w10 (by decide) h.1 (by decide) dX7_round_45 ?_
          replace h := h.2
          refine a_nmS (fun s14 hx => ?_)
          replace h := h s14 hx
          clear hx
          refine a_iinc (pc := 46) a (ls1 := [(1, vI (x1 + 1)), (0, Value.ref (ad 161))]) 1 dX7_round_46 rfl (by decide) rfl ?_
          refine a_goto (pc := 49) a dX7_round_49 (tgt := 2) (by decide) ?_
          refine a_sub (ls1 := [(0, Value.ref (ad 161)), (1, vI (x1 + 1))]) [1, 0] rfl ?_
          exact hag2 (x1 + 1) s14 h
        · replace h := h.2.2 hq
          clear hq
          refine a_iconst (pc := 40) a dX7_round_40 ?_
          refine a_goto (pc := 41) a dX7_round_41 (tgt := 45) (by decide) ?_
          refine a_zast (pc := 45) a w10 (by decide) h.1 (by decide) dX7_round_45 ?_
          replace h := h.2
          refine a_nmS (fun s15 hx => ?_)
          replace h := h s15 hx
          clear hx
          refine a_iinc (pc := 46) a (ls1 := [(1, vI (x1 + 1)), (0, Value.ref (ad 161))]) 1 dX7_round_46 rfl (by decide) rfl ?_
          refine a_goto (pc := 49) a dX7_round_49 (tgt := 2) (by decide) ?_
          refine a_sub (ls1 := [(0, Value.ref (ad 161)), (1, vI (x1 + 1))]) [1, 0] rfl ?_
          exact hag2 (x1 + 1) s15 h

set_option maxRecDepth 100000 in
set_option maxHeartbeats 4000000 in
theorem c_X7_makes {l : Launch} {D : va_G} {X : XI} {ad : Nat → Nat} (hinj : adI ad) (hl0 : l.stackTraces = false)   {σ : St} {K : St → Prop} (h : f_X7_makes σ K) (sz : Nat) : Met l yX7_makes (WW (.code yX7_makes cX7_makes 1 none)) { frames := 7, cells := 0, slots := 0, locals := 162 } (va_Pc [Value.ref (ad 161)] (WD D X ad σ sz)) (QV D X ad sz K) 0 0 (AA ad sz) := by
  refine a_start (cc := cX7_makes) (maxL := 1) (ret := none) (own := RX7) [Value.ref (ad 161)] (by decide) rfl rfl (Nat.le_of_ble_eq_true rfl) hinj hl0 ?_
  intro p e s m below meth c a hr hsz
  subst hsz
  have hts := a.1.2.2.2.2
  have tb : tyc 161 (11, 0) := ⟨by decide, rfl⟩
  have w1 := hts (Cond.fieldLink RX7 116 "SightLegendModel" "corner" "I") (List.mem_cons_of_mem _ (GL_22 _ (by decide +kernel)))
  have w2 : ∀ w ∈ u_ws RX7 TX7 29, w ∈ WW (.code yX7_makes cX7_makes 1 none) := fun w h => List.mem_cons_of_mem _ (inlX7 w h)
  have w3 := hts (Cond.fieldLink RX7 83 "SightLegendModel" "lines" "I") (List.mem_cons_of_mem _ (GL_22 _ (by decide +kernel)))
  have w4 := hts (Cond.fieldLink RX7 150 "SightLegendModel" "rounds" "I") (List.mem_cons_of_mem _ (GL_22 _ (by decide +kernel)))
  have w5 := hts (Cond.fieldLink RX7 153 "SightLegendModel" "isSame" "Z") (List.mem_cons_of_mem _ (GL_22 _ (by decide +kernel)))
  have w6 := hts (Cond.fieldLink RX7 160 "SightLegendModel" "firstLines" "I") (List.mem_cons_of_mem _ (GL_22 _ (by decide +kernel)))
  unfold f_X7_makes at h
  refine a_sub (ls1 := [(0, Value.ref (ad 161))]) [0] rfl ?_
  refine a_aload_n (pc := 0) a 0 dX7_makes_0 rfl rfl ?_
  refine a_iconst (pc := 1) a dX7_makes_1 ?_
  refine a_putI (pc := 2) a 18 18 rfl tb vc7 w2 w1 (by decide) (by decide) tyX7 tyX7_ok nmX7 rfl rfl (by decide +kernel) dX7_makes_2 ?_
  refine a_nmS (fun s1 hx => ?_)
  replace h := h s1 hx
  clear hx
  refine a_aload_n (pc := 5) a 0 dX7_makes_5 rfl rfl ?_
  refine a_iconst (pc := 6) a dX7_makes_6 ?_
  refine a_putI (pc := 7) a 13 13 rfl tb vc7 w2 w3 (by decide) (by decide) tyX7 tyX7_ok nmX7 rfl rfl (by decide +kernel) dX7_makes_7 ?_
  refine a_nmS (fun s2 hx => ?_)
  replace h := h s2 hx
  clear hx
  refine a_aload_n (pc := 10) a 0 dX7_makes_10 rfl rfl ?_
  refine a_iconst (pc := 11) a dX7_makes_11 ?_
  refine a_putI (pc := 12) a 16 16 rfl tb vc7 w2 w4 (by decide) (by decide) tyX7 tyX7_ok nmX7 rfl rfl (by decide +kernel) dX7_makes_12 ?_
  refine a_nmS (fun s3 hx => ?_)
  replace h := h s3 hx
  clear hx
  refine a_aload_n (pc := 15) a 0 dX7_makes_15 rfl rfl ?_
  refine a_iconst (pc := 16) a dX7_makes_16 ?_
  refine a_putZ (pc := 17) a 17 17 rfl tb vc7 w2 w5 (by decide) (by decide) tyX7 tyX7_ok nmX7 (by decide) rfl rfl (by decide +kernel) dX7_makes_17 ?_
  refine a_nmS (fun s4 hx => ?_)
  replace h := h s4 hx
  clear hx
  refine a_aload_n (pc := 20) a 0 dX7_makes_20 rfl rfl ?_
  refine a_cvv (pc := 21) a (As := []) (rest := []) tb vc7 (fun sz => c_X7_round hinj hl0  h sz) (cwV 0 hts (gl_V (GL_22 _ (by decide +kernel)) (GL_22 _ (by decide +kernel)) (GL_22 _ (by decide +kernel)) (GL_1 _ (by decide +kernel)) (GL_22 _ (by decide +kernel))) rfl rfl rfl (by decide +kernel) ⟨Nat.le_of_ble_eq_true rfl, Nat.le_of_ble_eq_true rfl⟩) rfl rfl (Nat.le_of_ble_eq_true rfl) ⟨Nat.le_of_ble_eq_true rfl, Nat.le_of_ble_eq_true rfl⟩ dX7_makes_21 ?_
  clear h
  intro s5 h
  refine a_aload_n (pc := 24) a 0 dX7_makes_24 rfl rfl ?_
  refine a_aload_n (pc := 25) a 0 dX7_makes_25 rfl rfl ?_
  refine a_getI (pc := 26) a 13 13 rfl tb vc7 w2 w3 (by decide) (by decide) rfl dX7_makes_26 ?_
  refine a_putI (pc := 29) a 15 15 rfl tb vc7 w2 w6 (by decide) (by decide) tyX7 tyX7_ok nmX7 rfl rfl (by decide +kernel) dX7_makes_29 ?_
  refine a_nmS (fun s6 hx => ?_)
  replace h := h s6 hx
  clear hx
  refine g_wl0s [(0, Value.ref (ad 161))] h ?_
  clear h
  intro s7 ag32 hag32 h
  refine a_aload_n (pc := 32) a 0 dX7_makes_32 rfl rfl ?_
  refine a_getI (pc := 33) a 16 16 rfl tb vc7 w2 w4 (by decide) (by decide) rfl dX7_makes_33 ?_
  refine a_bipush (pc := 36) a dX7_makes_36 (by decide) ?_
  refine a_icmp_ge (pc := 38) a h.1 ⟨by decide, by decide⟩ dX7_makes_38 (tgt := 63) (by decide) (fun hq => ?_) (fun hq => ?_)
  · replace h := h.2.1 hq
    clear hq
    exact e_v (pc := 63) a hr dX7_makes_63 h
  · replace h := h.2.2 hq
    clear hq
    refine a_aload_n (pc := 41) a 0 dX7_makes_41 rfl rfl ?_
    refine a_getI (pc := 42) a 17 17 rfl tb vc7 w2 w5 (by decide) (by decide) rfl dX7_makes_42 ?_
    refine a_if_ne (pc := 45) a h.1 dX7_makes_45 (tgt := 63) (by decide) (fun hq => ?_) (fun hq => ?_)
    · replace h := h.2.1 hq
      clear hq
      exact e_v (pc := 63) a hr dX7_makes_63 h
    · replace h := h.2.2 hq
      clear hq
      refine a_aload_n (pc := 48) a 0 dX7_makes_48 rfl rfl ?_
      refine a_cvv (pc := 49) a (As := []) (rest := []) tb vc7 (fun sz => c_X7_round hinj hl0  h sz) (cwV 0 hts (gl_V (GL_22 _ (by decide +kernel)) (GL_22 _ (by decide +kernel)) (GL_22 _ (by decide +kernel)) (GL_1 _ (by decide +kernel)) (GL_22 _ (by decide +kernel))) rfl rfl rfl (by decide +kernel) ⟨Nat.le_of_ble_eq_true rfl, Nat.le_of_ble_eq_true rfl⟩) rfl rfl (Nat.le_of_ble_eq_true rfl) ⟨Nat.le_of_ble_eq_true rfl, Nat.le_of_ble_eq_true rfl⟩ dX7_makes_49 ?_
      clear h
      intro s8 h
      refine a_aload_n (pc := 52) a 0 dX7_makes_52 rfl rfl ?_
      refine a_aload_n (pc := 53) a 0 dX7_makes_53 rfl rfl ?_
      refine a_cvi (pc := 54) a (As := []) (rest := [Value.ref (ad 161)]) tb vc7 (fun sz => c_X7_areSame hinj hl0  h sz) (cwV 0 hts (gl_V (GL_24 _ (by decide +kernel)) (GL_24 _ (by decide +kernel)) (GL_24 _ (by decide +kernel)) (GL_1 _ (by decide +kernel)) (GL_24 _ (by decide +kernel))) rfl rfl rfl (by decide +kernel) ⟨Nat.le_of_ble_eq_true rfl, Nat.le_of_ble_eq_true rfl⟩) rfl rfl (Nat.le_of_ble_eq_true rfl) ⟨Nat.le_of_ble_eq_true rfl, Nat.le_of_ble_eq_true rfl⟩ dX7_makes_54 ?_
      rintro x9 s9 ⟨hs9, h9⟩
      subst s9
      replace h := h9
      clear h9
      refine a_putZ (pc := 57) a 17 17 rfl tb vc7 w2 w5 (by decide) (by decide) tyX7 tyX7_ok nmX7 h.1 rfl rfl (by decide +kernel) dX7_makes_57 ?_
      replace h := h.2
      refine a_nmS (fun s10 hx => ?_)
      replace h := h s10 hx
      clear hx
      refine a_goto (pc := 60) a dX7_makes_60 (tgt := 32) (by decide) ?_
      exact hag32 s10 h

set_option maxRecDepth 100000 in
set_option maxHeartbeats 4000000 in
theorem c_X7_explainedMany {l : Launch} {D : va_G} {X : XI} {ad : Nat → Nat} (hinj : adI ad) (hl0 : l.stackTraces = false)   {σ : St} {K : Int → Prop} (h : f_X7_explainedMany σ K) (sz : Nat) : Met l yX7_explainedMany (WW (.code yX7_explainedMany cX7_explainedMany 3 (some .int))) { frames := 0, cells := 0, slots := 0, locals := 0 } (va_Pc [Value.ref (ad 161)] (WD D X ad σ sz)) (QI D X ad sz (fun r τ => τ = σ ∧ K r)) 0 0 (AA ad sz) := by
  refine a_start (cc := cX7_explainedMany) (maxL := 3) (ret := (some .int)) (own := RX7) [Value.ref (ad 161)] (by decide) rfl rfl (Nat.le_of_ble_eq_true rfl) hinj hl0 ?_
  intro p e s m below meth c a hr hsz
  subst hsz
  have hts := a.1.2.2.2.2
  have tb : tyc 161 (11, 0) := ⟨by decide, rfl⟩
  have w1 := hts (Cond.fieldLink RX7 25 "SightLegendModel" "sight" "[Z") (List.mem_cons_of_mem _ (GL_5 _ (by decide +kernel)))
  have w2 : ∀ w ∈ u_ws RX7 TX7 29, w ∈ WW (.code yX7_explainedMany cX7_explainedMany 3 (some .int)) := fun w h => List.mem_cons_of_mem _ (inlX7 w h)
  have w3 : tyc 167 (1, 40) := ty_of (d := 6) (t1 := (1, 40)) (by decide +kernel) rfl tb
  unfold f_X7_explainedMany at h
  refine a_sub (ls1 := [(0, Value.ref (ad 161))]) [0] rfl ?_
  refine a_iconst (pc := 0) a dX7_explainedMany_0 ?_
  refine a_istore_n (pc := 1) a (ls1 := [(1, vI 0), (0, Value.ref (ad 161))]) dX7_explainedMany_1 rfl (by decide) rfl ?_
  refine a_iconst (pc := 2) a dX7_explainedMany_2 ?_
  refine a_istore_n (pc := 3) a (ls1 := [(2, vI 0), (1, vI 0), (0, Value.ref (ad 161))]) dX7_explainedMany_3 rfl (by decide) rfl ?_
  refine a_sub (ls1 := [(0, Value.ref (ad 161)), (1, vI 0), (2, vI 0)]) [2, 1, 0] rfl ?_
  refine g_wl2 (fun x1 x2 => [(0, Value.ref (ad 161)), (1, vI x1), (2, vI x2)]) h ?_
  clear h
  intro x1 x2 ag4 hag4 h
  refine a_iload_n (pc := 4) a 2 dX7_explainedMany_4 rfl rfl ?_
  refine a_bipush (pc := 5) a dX7_explainedMany_5 (by decide) ?_
  refine a_icmp_ge (pc := 7) a h.1 ⟨by decide, by decide⟩ dX7_explainedMany_7 (tgt := 33) (by decide) (fun hq => ?_) (fun hq => ?_)
  · replace h := h.2.1 hq
    clear hq
    refine a_iload_n (pc := 33) a 1 dX7_explainedMany_33 rfl rfl ?_
    exact e_i (pc := 34) a hr dX7_explainedMany_34 ⟨rfl, h⟩
  · replace h := h.2.2 hq
    clear hq
    refine a_iload_n (pc := 10) a 1 dX7_explainedMany_10 rfl rfl ?_
    refine a_aload_n (pc := 11) a 0 dX7_explainedMany_11 rfl rfl ?_
    refine a_getR (pc := 12) a 8 8 rfl tb vc7 w2 w1 (by decide) (by decide) 6 (q := 167) rfl rfl dX7_explainedMany_12 ?_
    refine a_iload_n (pc := 15) a 2 dX7_explainedMany_15 rfl rfl ?_
    refine a_zald (pc := 16) a w3 (by decide) h.1 dX7_explainedMany_16 ?_
    replace h := h.2
    refine a_if_eq (pc := 17) a h.1 dX7_explainedMany_17 (tgt := 24) (by decide) (fun hq => ?_) (fun hq => ?_)
    · replace h := h.2.1 hq
      clear hq
      refine a_iconst (pc := 24) a dX7_explainedMany_24 ?_
      refine a_iadd (pc := 25) a dX7_explainedMany_25 ?_
      refine a_nm (fun x3 hx => ?_)
      replace h := h x3 hx
      clear hx
      refine a_istore_n (pc := 26) a (ls1 := [(1, vI x3), (0, Value.ref (ad 161)), (2, vI x2)]) dX7_explainedMany_26 rfl (by decide) rfl ?_
      refine a_iinc (pc := 27) a (ls1 := [(2, vI (x2 + 1)), (1, vI x3), (0, Value.ref (ad 161))]) 2 dX7_explainedMany_27 rfl (by decide) rfl ?_
      refine a_goto (pc := 30) a dX7_explainedMany_30 (tgt := 4) (by decide) ?_
      refine a_sub (ls1 := [(0, Value.ref (ad 161)), (1, vI x3), (2, vI (x2 + 1))]) [2, 1, 0] rfl ?_
      exact hag4 x3 (x2 + 1) h
    · replace h := h.2.2 hq
      clear hq
      refine a_iconst (pc := 20) a dX7_explainedMany_20 ?_
      refine a_goto (pc := 21) a dX7_explainedMany_21 (tgt := 25) (by decide) ?_
      refine a_iadd (pc := 25) a dX7_explainedMany_25 ?_
      refine a_nm (fun x4 hx => ?_)
      replace h := h x4 hx
      clear hx
      refine a_istore_n (pc := 26) a (ls1 := [(1, vI x4), (0, Value.ref (ad 161)), (2, vI x2)]) dX7_explainedMany_26 rfl (by decide) rfl ?_
      refine a_iinc (pc := 27) a (ls1 := [(2, vI (x2 + 1)), (1, vI x4), (0, Value.ref (ad 161))]) 2 dX7_explainedMany_27 rfl (by decide) rfl ?_
      refine a_goto (pc := 30) a dX7_explainedMany_30 (tgt := 4) (by decide) ?_
      refine a_sub (ls1 := [(0, Value.ref (ad 161)), (1, vI x4), (2, vI (x2 + 1))]) [2, 1, 0] rfl ?_
      exact hag4 x4 (x2 + 1) h

set_option maxRecDepth 100000 in
set_option maxHeartbeats 4000000 in
theorem c_X7_addSign {l : Launch} {D : va_G} {X : XI} {ad : Nat → Nat} (hinj : adI ad) (hl0 : l.stackTraces = false) {p1 : Int} {p2 : Int} {p3 : Int} {p4 : Int} {p5 : Int}  {σ : St} {K : Int → St → Prop} (h : f_X7_addSign p1 p2 p3 p4 p5 σ K) (sz : Nat) : Met l yX7_addSign (WW (.code yX7_addSign cX7_addSign 7 (some .int))) { frames := 2, cells := 0, slots := 0, locals := 43 } (va_Pc [Value.ref (ad 161), vI p1, vI p2, vI p3, vI p4, vI p5] (WD D X ad σ sz)) (QI D X ad sz K) 0 0 (AA ad sz) := by
  refine a_start (cc := cX7_addSign) (maxL := 7) (ret := (some .int)) (own := RX7) [Value.ref (ad 161), vI p1, vI p2, vI p3, vI p4, vI p5] (by decide) rfl rfl (Nat.le_of_ble_eq_true rfl) hinj hl0 ?_
  intro p e s m below meth c a hr hsz
  subst hsz
  have hts := a.1.2.2.2.2
  have tb : tyc 161 (11, 0) := ⟨by decide, rfl⟩
  have w1 := hts (Cond.fieldLink RX7 7 "SightLegendModel" "s" "[I") (List.mem_cons_of_mem _ (GL_5 _ (by decide +kernel)))
  have w2 : ∀ w ∈ u_ws RX7 TX7 29, w ∈ WW (.code yX7_addSign cX7_addSign 7 (some .int)) := fun w h => List.mem_cons_of_mem _ (inlX7 w h)
  have w3 : tyc 162 (0, 311) := ty_of (d := 1) (t1 := (0, 311)) (by decide +kernel) rfl tb
  unfold f_X7_addSign at h
  refine a_sub (ls1 := [(0, Value.ref (ad 161)), (1, vI p1), (2, vI p2), (3, vI p3), (4, vI p4), (5, vI p5)]) [0, 1, 2, 3, 4, 5] rfl ?_
  refine a_iload_n (pc := 0) a 1 dX7_addSign_0 rfl rfl ?_
  refine a_csi (pc := 1) a (As := [vI p1]) (rest := []) (fun sz => c_X7_isKind hinj hl0  h sz) (va_cwS 1 hts (gl_S (GL_7 _ (by decide +kernel)) (GL_7 _ (by decide +kernel)) (GL_1 _ (by decide +kernel)) (GL_8 _ (by decide +kernel))) rfl rfl rfl (by decide +kernel) ⟨Nat.le_of_ble_eq_true rfl, Nat.le_of_ble_eq_true rfl⟩) rfl rfl (Nat.le_of_ble_eq_true rfl) ⟨Nat.le_of_ble_eq_true rfl, Nat.le_of_ble_eq_true rfl⟩ dX7_addSign_1 ?_
  rintro x1 s9 ⟨hs9, h9⟩
  subst s9
  replace h := h9
  clear h9
  refine a_if_ne (pc := 4) a h.1 dX7_addSign_4 (tgt := 13) (by decide) (fun hq => ?_) (fun hq => ?_)
  · replace h := h.2.1 hq
    clear hq
    refine a_iload_n (pc := 13) a 2 dX7_addSign_13 rfl rfl ?_
    refine a_iconst (pc := 14) a dX7_addSign_14 ?_
    refine a_sipush (pc := 15) a dX7_addSign_15 (by decide) ?_
    refine a_csi (pc := 18) a (As := [vI p2, vI 0, vI 199]) (rest := []) (fun sz => c_X7_in hinj hl0  h sz) (va_cwS 3 hts (gl_S (GL_8 _ (by decide +kernel)) (GL_8 _ (by decide +kernel)) (GL_1 _ (by decide +kernel)) (GL_8 _ (by decide +kernel))) rfl rfl rfl (by decide +kernel) ⟨Nat.le_of_ble_eq_true rfl, Nat.le_of_ble_eq_true rfl⟩) rfl rfl (Nat.le_of_ble_eq_true rfl) ⟨Nat.le_of_ble_eq_true rfl, Nat.le_of_ble_eq_true rfl⟩ dX7_addSign_18 ?_
    rintro x2 s9 ⟨hs9, h9⟩
    subst s9
    replace h := h9
    clear h9
    refine a_if_eq (pc := 21) a h.1 dX7_addSign_21 (tgt := 57) (by decide) (fun hq => ?_) (fun hq => ?_)
    · replace h := h.2.1 hq
      clear hq
      refine a_aload_n (pc := 57) a 0 dX7_addSign_57 rfl rfl ?_
      refine a_iconst (pc := 58) a dX7_addSign_58 ?_
      refine a_cvi (pc := 59) a (As := [vI 2]) (rest := []) tb vc7 (fun sz => c_X7_fails hinj hl0  h sz) (cwV 1 hts (gl_V (GL_8 _ (by decide +kernel)) (GL_8 _ (by decide +kernel)) (GL_8 _ (by decide +kernel)) (GL_1 _ (by decide +kernel)) (GL_8 _ (by decide +kernel))) rfl rfl rfl (by decide +kernel) ⟨Nat.le_of_ble_eq_true rfl, Nat.le_of_ble_eq_true rfl⟩) rfl rfl (Nat.le_of_ble_eq_true rfl) ⟨Nat.le_of_ble_eq_true rfl, Nat.le_of_ble_eq_true rfl⟩ dX7_addSign_59 ?_
      clear h
      intro x3 s4 h
      exact e_i (pc := 62) a hr dX7_addSign_62 h
    · replace h := h.2.2 hq
      clear hq
      refine a_iload_n (pc := 24) a 3 dX7_addSign_24 rfl rfl ?_
      refine a_iconst (pc := 25) a dX7_addSign_25 ?_
      refine a_sipush (pc := 26) a dX7_addSign_26 (by decide) ?_
      refine a_csi (pc := 29) a (As := [vI p3, vI 0, vI 199]) (rest := []) (fun sz => c_X7_in hinj hl0  h sz) (va_cwS 3 hts (gl_S (GL_8 _ (by decide +kernel)) (GL_8 _ (by decide +kernel)) (GL_1 _ (by decide +kernel)) (GL_8 _ (by decide +kernel))) rfl rfl rfl (by decide +kernel) ⟨Nat.le_of_ble_eq_true rfl, Nat.le_of_ble_eq_true rfl⟩) rfl rfl (Nat.le_of_ble_eq_true rfl) ⟨Nat.le_of_ble_eq_true rfl, Nat.le_of_ble_eq_true rfl⟩ dX7_addSign_29 ?_
      rintro x5 s9 ⟨hs9, h9⟩
      subst s9
      replace h := h9
      clear h9
      refine a_if_eq (pc := 32) a h.1 dX7_addSign_32 (tgt := 57) (by decide) (fun hq => ?_) (fun hq => ?_)
      · replace h := h.2.1 hq
        clear hq
        refine a_aload_n (pc := 57) a 0 dX7_addSign_57 rfl rfl ?_
        refine a_iconst (pc := 58) a dX7_addSign_58 ?_
        refine a_cvi (pc := 59) a (As := [vI 2]) (rest := []) tb vc7 (fun sz => c_X7_fails hinj hl0  h sz) (cwV 1 hts (gl_V (GL_8 _ (by decide +kernel)) (GL_8 _ (by decide +kernel)) (GL_8 _ (by decide +kernel)) (GL_1 _ (by decide +kernel)) (GL_8 _ (by decide +kernel))) rfl rfl rfl (by decide +kernel) ⟨Nat.le_of_ble_eq_true rfl, Nat.le_of_ble_eq_true rfl⟩) rfl rfl (Nat.le_of_ble_eq_true rfl) ⟨Nat.le_of_ble_eq_true rfl, Nat.le_of_ble_eq_true rfl⟩ dX7_addSign_59 ?_
        clear h
        intro x6 s7 h
        exact e_i (pc := 62) a hr dX7_addSign_62 h
      · replace h := h.2.2 hq
        clear hq
        refine a_iload (pc := 35) a 4 dX7_addSign_35 rfl ?_
        refine a_iconst (pc := 37) a dX7_addSign_37 ?_
        refine a_sipush (pc := 38) a dX7_addSign_38 (by decide) ?_
        refine a_csi (pc := 41) a (As := [vI p4, vI 0, vI 9999]) (rest := []) (fun sz => c_X7_in hinj hl0  h sz) (va_cwS 3 hts (gl_S (GL_8 _ (by decide +kernel)) (GL_8 _ (by decide +kernel)) (GL_1 _ (by decide +kernel)) (GL_8 _ (by decide +kernel))) rfl rfl rfl (by decide +kernel) ⟨Nat.le_of_ble_eq_true rfl, Nat.le_of_ble_eq_true rfl⟩) rfl rfl (Nat.le_of_ble_eq_true rfl) ⟨Nat.le_of_ble_eq_true rfl, Nat.le_of_ble_eq_true rfl⟩ dX7_addSign_41 ?_
        rintro x8 s9 ⟨hs9, h9⟩
        subst s9
        replace h := h9
        clear h9
        refine a_if_eq (pc := 44) a h.1 dX7_addSign_44 (tgt := 57) (by decide) (fun hq => ?_) (fun hq => ?_)
        · replace h := h.2.1 hq
          clear hq
          refine a_aload_n (pc := 57) a 0 dX7_addSign_57 rfl rfl ?_
          refine a_iconst (pc := 58) a dX7_addSign_58 ?_
          refine a_cvi (pc := 59) a (As := [vI 2]) (rest := []) tb vc7 (fun sz => c_X7_fails hinj hl0  h sz) (cwV 1 hts (gl_V (GL_8 _ (by decide +kernel)) (GL_8 _ (by decide +kernel)) (GL_8 _ (by decide +kernel)) (GL_1 _ (by decide +kernel)) (GL_8 _ (by decide +kernel))) rfl rfl rfl (by decide +kernel) ⟨Nat.le_of_ble_eq_true rfl, Nat.le_of_ble_eq_true rfl⟩) rfl rfl (Nat.le_of_ble_eq_true rfl) ⟨Nat.le_of_ble_eq_true rfl, Nat.le_of_ble_eq_true rfl⟩ dX7_addSign_59 ?_
          clear h
          intro x9 s10 h
          exact e_i (pc := 62) a hr dX7_addSign_62 h
        · replace h := h.2.2 hq
          clear hq
          refine a_iload (pc := 47) a 5 dX7_addSign_47 rfl ?_
          refine a_iconst (pc := 49) a dX7_addSign_49 ?_
          refine a_iconst (pc := 50) a dX7_addSign_50 ?_
          refine a_csi (pc := 51) a (As := [vI p5, vI 0, vI 5]) (rest := []) (fun sz => c_X7_in hinj hl0  h sz) (va_cwS 3 hts (gl_S (GL_8 _ (by decide +kernel)) (GL_8 _ (by decide +kernel)) (GL_1 _ (by decide +kernel)) (GL_8 _ (by decide +kernel))) rfl rfl rfl (by decide +kernel) ⟨Nat.le_of_ble_eq_true rfl, Nat.le_of_ble_eq_true rfl⟩) rfl rfl (Nat.le_of_ble_eq_true rfl) ⟨Nat.le_of_ble_eq_true rfl, Nat.le_of_ble_eq_true rfl⟩ dX7_addSign_51 ?_
          rintro x11 s9 ⟨hs9, h9⟩
          subst s9
          replace h := h9
          clear h9
          refine a_if_ne (pc := 54) a h.1 dX7_addSign_54 (tgt := 63) (by decide) (fun hq => ?_) (fun hq => ?_)
          · replace h := h.2.1 hq
            clear hq
            refine a_aload_n (pc := 63) a 0 dX7_addSign_63 rfl rfl ?_
            refine a_getR (pc := 64) a 0 0 rfl tb vc7 w2 w1 (by decide) (by decide) 1 (q := 162) rfl rfl dX7_addSign_64 ?_
            refine a_bipush (pc := 67) a dX7_addSign_67 (by decide) ?_
            refine a_iald (pc := 69) a w3 (by decide) (by decide) dX7_addSign_69 ?_
            refine a_bipush (pc := 70) a dX7_addSign_70 (by decide) ?_
            refine a_icmp_ne (pc := 72) a h.1 ⟨by decide, by decide⟩ dX7_addSign_72 (tgt := 81) (by decide) (fun hq => ?_) (fun hq => ?_)
            · replace h := h.2.1 hq
              clear hq
              refine a_aload_n (pc := 81) a 0 dX7_addSign_81 rfl rfl ?_
              refine a_cvv (pc := 82) a (As := []) (rest := []) tb vc7 (fun sz => c_X7_hold hinj hl0  h sz) (cwV 0 hts (gl_V (GL_8 _ (by decide +kernel)) (GL_8 _ (by decide +kernel)) (GL_8 _ (by decide +kernel)) (GL_1 _ (by decide +kernel)) (GL_8 _ (by decide +kernel))) rfl rfl rfl (by decide +kernel) ⟨Nat.le_of_ble_eq_true rfl, Nat.le_of_ble_eq_true rfl⟩) rfl rfl (Nat.le_of_ble_eq_true rfl) ⟨Nat.le_of_ble_eq_true rfl, Nat.le_of_ble_eq_true rfl⟩ dX7_addSign_82 ?_
              clear h
              intro s12 h
              refine a_bipush (pc := 85) a dX7_addSign_85 (by decide) ?_
              refine a_iconst (pc := 87) a dX7_addSign_87 ?_
              refine a_aload_n (pc := 88) a 0 dX7_addSign_88 rfl rfl ?_
              refine a_getR (pc := 89) a 0 0 rfl tb vc7 w2 w1 (by decide) (by decide) 1 (q := 162) rfl rfl dX7_addSign_89 ?_
              refine a_bipush (pc := 92) a dX7_addSign_92 (by decide) ?_
              refine a_iald (pc := 94) a w3 (by decide) (by decide) dX7_addSign_94 ?_
              refine a_imul (pc := 95) a dX7_addSign_95 ?_
              refine a_iadd (pc := 96) a dX7_addSign_96 ?_
              refine a_nm (fun x13 hx => ?_)
              replace h := h x13 hx
              clear hx
              refine a_istore (pc := 97) a (ls1 := [(6, vI x13), (0, Value.ref (ad 161)), (1, vI p1), (2, vI p2), (3, vI p3), (4, vI p4), (5, vI p5)]) dX7_addSign_97 (by decide) rfl ?_
              refine a_aload_n (pc := 99) a 1 dX7_addSign_99 rfl rfl ?_
              refine a_getR (pc := 100) a 0 0 rfl tb vc7 w2 w1 (by decide) (by decide) 1 (q := 162) rfl rfl dX7_addSign_100 ?_
              refine a_iload (pc := 103) a 0 dX7_addSign_103 rfl ?_
              refine a_iload_n (pc := 105) a 2 dX7_addSign_105 rfl rfl ?_
              refine a_iast (pc := 106) a w3 (by decide) h.1 dX7_addSign_106 ?_
              replace h := h.2
              refine a_nmS (fun s14 hx => ?_)
              replace h := h s14 hx
              clear hx
              refine a_aload_n (pc := 107) a 1 dX7_addSign_107 rfl rfl ?_
              refine a_getR (pc := 108) a 0 0 rfl tb vc7 w2 w1 (by decide) (by decide) 1 (q := 162) rfl rfl dX7_addSign_108 ?_
              refine a_iload (pc := 111) a 0 dX7_addSign_111 rfl ?_
              refine a_iconst (pc := 113) a dX7_addSign_113 ?_
              refine a_iadd (pc := 114) a dX7_addSign_114 ?_
              refine a_iload_n (pc := 115) a 3 dX7_addSign_115 rfl rfl ?_
              refine a_iast (pc := 116) a w3 (by decide) h.1 dX7_addSign_116 ?_
              replace h := h.2
              refine a_nmS (fun s15 hx => ?_)
              replace h := h s15 hx
              clear hx
              refine a_aload_n (pc := 117) a 1 dX7_addSign_117 rfl rfl ?_
              refine a_getR (pc := 118) a 0 0 rfl tb vc7 w2 w1 (by decide) (by decide) 1 (q := 162) rfl rfl dX7_addSign_118 ?_
              refine a_iload (pc := 121) a 0 dX7_addSign_121 rfl ?_
              refine a_iconst (pc := 123) a dX7_addSign_123 ?_
              refine a_iadd (pc := 124) a dX7_addSign_124 ?_
              refine a_iload_n (pc := 125) a 4 dX7_addSign_125 rfl rfl ?_
              refine a_iast (pc := 126) a w3 (by decide) h.1 dX7_addSign_126 ?_
              replace h := h.2
              refine a_nmS (fun s16 hx => ?_)
              replace h := h s16 hx
              clear hx
              refine a_aload_n (pc := 127) a 1 dX7_addSign_127 rfl rfl ?_
              refine a_getR (pc := 128) a 0 0 rfl tb vc7 w2 w1 (by decide) (by decide) 1 (q := 162) rfl rfl dX7_addSign_128 ?_
              refine a_iload (pc := 131) a 0 dX7_addSign_131 rfl ?_
              refine a_iconst (pc := 133) a dX7_addSign_133 ?_
              refine a_iadd (pc := 134) a dX7_addSign_134 ?_
              refine a_iload (pc := 135) a 5 dX7_addSign_135 rfl ?_
              refine a_iast (pc := 137) a w3 (by decide) h.1 dX7_addSign_137 ?_
              replace h := h.2
              refine a_nmS (fun s17 hx => ?_)
              replace h := h s17 hx
              clear hx
              refine a_aload_n (pc := 138) a 1 dX7_addSign_138 rfl rfl ?_
              refine a_getR (pc := 139) a 0 0 rfl tb vc7 w2 w1 (by decide) (by decide) 1 (q := 162) rfl rfl dX7_addSign_139 ?_
              refine a_iload (pc := 142) a 0 dX7_addSign_142 rfl ?_
              refine a_iconst (pc := 144) a dX7_addSign_144 ?_
              refine a_iadd (pc := 145) a dX7_addSign_145 ?_
              refine a_iload (pc := 146) a 6 dX7_addSign_146 rfl ?_
              refine a_iast (pc := 148) a w3 (by decide) h.1 dX7_addSign_148 ?_
              replace h := h.2
              refine a_nmS (fun s18 hx => ?_)
              replace h := h s18 hx
              clear hx
              refine a_aload_n (pc := 149) a 1 dX7_addSign_149 rfl rfl ?_
              refine a_getR (pc := 150) a 0 0 rfl tb vc7 w2 w1 (by decide) (by decide) 1 (q := 162) rfl rfl dX7_addSign_150 ?_
              refine a_bipush (pc := 153) a dX7_addSign_153 (by decide) ?_
              refine a_dup2 (pc := 155) a rfl rfl dX7_addSign_155 ?_
              refine a_iald (pc := 156) a w3 (by decide) (by decide) dX7_addSign_156 ?_
              refine a_iconst (pc := 157) a dX7_addSign_157 ?_
              refine a_iadd (pc := 158) a dX7_addSign_158 ?_
              refine a_iast (pc := 159) a w3 (by decide) (by decide) dX7_addSign_159 ?_
              refine a_nmS (fun s19 hx => ?_)
              replace h := h s19 hx
              clear hx
              refine a_aload_n (pc := 160) a 1 dX7_addSign_160 rfl rfl ?_
              refine a_aload_n (pc := 161) a 1 dX7_addSign_161 rfl rfl ?_
              refine a_getR (pc := 162) a 0 0 rfl tb vc7 w2 w1 (by decide) (by decide) 1 (q := 162) rfl rfl dX7_addSign_162 ?_
              refine a_bipush (pc := 165) a dX7_addSign_165 (by decide) ?_
              refine a_iald (pc := 167) a w3 (by decide) (by decide) dX7_addSign_167 ?_
              refine a_iconst (pc := 168) a dX7_addSign_168 ?_
              refine a_isub (pc := 169) a dX7_addSign_169 ?_
              refine a_cvi (pc := 170) a (As := [vI ((s19 162 9) - 1)]) (rest := []) tb vc7 (fun sz => c_X7_ends hinj hl0  h sz) (cwV 1 hts (gl_V (GL_8 _ (by decide +kernel)) (GL_8 _ (by decide +kernel)) (GL_8 _ (by decide +kernel)) (GL_1 _ (by decide +kernel)) (GL_8 _ (by decide +kernel))) rfl rfl rfl (by decide +kernel) ⟨Nat.le_of_ble_eq_true rfl, Nat.le_of_ble_eq_true rfl⟩) rfl rfl (Nat.le_of_ble_eq_true rfl) ⟨Nat.le_of_ble_eq_true rfl, Nat.le_of_ble_eq_true rfl⟩ dX7_addSign_170 ?_
              clear h
              intro x20 s21 h
              exact e_i (pc := 173) a hr dX7_addSign_173 h
            · replace h := h.2.2 hq
              clear hq
              refine a_aload_n (pc := 75) a 0 dX7_addSign_75 rfl rfl ?_
              refine a_iconst (pc := 76) a dX7_addSign_76 ?_
              refine a_cvi (pc := 77) a (As := [vI 3]) (rest := []) tb vc7 (fun sz => c_X7_fails hinj hl0  h sz) (cwV 1 hts (gl_V (GL_8 _ (by decide +kernel)) (GL_8 _ (by decide +kernel)) (GL_8 _ (by decide +kernel)) (GL_1 _ (by decide +kernel)) (GL_8 _ (by decide +kernel))) rfl rfl rfl (by decide +kernel) ⟨Nat.le_of_ble_eq_true rfl, Nat.le_of_ble_eq_true rfl⟩) rfl rfl (Nat.le_of_ble_eq_true rfl) ⟨Nat.le_of_ble_eq_true rfl, Nat.le_of_ble_eq_true rfl⟩ dX7_addSign_77 ?_
              clear h
              intro x22 s23 h
              exact e_i (pc := 80) a hr dX7_addSign_80 h
          · replace h := h.2.2 hq
            clear hq
            refine a_aload_n (pc := 57) a 0 dX7_addSign_57 rfl rfl ?_
            refine a_iconst (pc := 58) a dX7_addSign_58 ?_
            refine a_cvi (pc := 59) a (As := [vI 2]) (rest := []) tb vc7 (fun sz => c_X7_fails hinj hl0  h sz) (cwV 1 hts (gl_V (GL_8 _ (by decide +kernel)) (GL_8 _ (by decide +kernel)) (GL_8 _ (by decide +kernel)) (GL_1 _ (by decide +kernel)) (GL_8 _ (by decide +kernel))) rfl rfl rfl (by decide +kernel) ⟨Nat.le_of_ble_eq_true rfl, Nat.le_of_ble_eq_true rfl⟩) rfl rfl (Nat.le_of_ble_eq_true rfl) ⟨Nat.le_of_ble_eq_true rfl, Nat.le_of_ble_eq_true rfl⟩ dX7_addSign_59 ?_
            clear h
            intro x24 s25 h
            exact e_i (pc := 62) a hr dX7_addSign_62 h
  · replace h := h.2.2 hq
    clear hq
    refine a_aload_n (pc := 7) a 0 dX7_addSign_7 rfl rfl ?_
    refine a_iconst (pc := 8) a dX7_addSign_8 ?_
    refine a_cvi (pc := 9) a (As := [vI 1]) (rest := []) tb vc7 (fun sz => c_X7_fails hinj hl0  h sz) (cwV 1 hts (gl_V (GL_8 _ (by decide +kernel)) (GL_8 _ (by decide +kernel)) (GL_8 _ (by decide +kernel)) (GL_1 _ (by decide +kernel)) (GL_8 _ (by decide +kernel))) rfl rfl rfl (by decide +kernel) ⟨Nat.le_of_ble_eq_true rfl, Nat.le_of_ble_eq_true rfl⟩) rfl rfl (Nat.le_of_ble_eq_true rfl) ⟨Nat.le_of_ble_eq_true rfl, Nat.le_of_ble_eq_true rfl⟩ dX7_addSign_9 ?_
    clear h
    intro x26 s27 h
    exact e_i (pc := 12) a hr dX7_addSign_12 h

set_option maxRecDepth 100000 in
set_option maxHeartbeats 4000000 in
theorem c_X7_drops {l : Launch} {D : va_G} {X : XI} {ad : Nat → Nat} (hinj : adI ad) (hl0 : l.stackTraces = false) {p1 : Int}  {σ : St} {K : St → Prop} (h : f_X7_drops p1 σ K) (sz : Nat) : Met l yX7_drops (WW (.code yX7_drops cX7_drops 3 none)) { frames := 0, cells := 0, slots := 0, locals := 0 } (va_Pc [Value.ref (ad 161), vI p1] (WD D X ad σ sz)) (QV D X ad sz K) 0 0 (AA ad sz) := by
  refine a_start (cc := cX7_drops) (maxL := 3) (ret := none) (own := RX7) [Value.ref (ad 161), vI p1] (by decide) rfl rfl (Nat.le_of_ble_eq_true rfl) hinj hl0 ?_
  intro p e s m below meth c a hr hsz
  subst hsz
  have hts := a.1.2.2.2.2
  have tb : tyc 161 (11, 0) := ⟨by decide, rfl⟩
  have w1 := hts (Cond.fieldLink RX7 7 "SightLegendModel" "s" "[I") (List.mem_cons_of_mem _ (GL_5 _ (by decide +kernel)))
  have w2 : ∀ w ∈ u_ws RX7 TX7 29, w ∈ WW (.code yX7_drops cX7_drops 3 none) := fun w h => List.mem_cons_of_mem _ (inlX7 w h)
  have w3 : tyc 162 (0, 311) := ty_of (d := 1) (t1 := (0, 311)) (by decide +kernel) rfl tb
  unfold f_X7_drops at h
  refine a_sub (ls1 := [(0, Value.ref (ad 161)), (1, vI p1)]) [0, 1] rfl ?_
  refine a_aload_n (pc := 0) a 0 dX7_drops_0 rfl rfl ?_
  refine a_getR (pc := 1) a 0 0 rfl tb vc7 w2 w1 (by decide) (by decide) 1 (q := 162) rfl rfl dX7_drops_1 ?_
  refine a_bipush (pc := 4) a dX7_drops_4 (by decide) ?_
  refine a_dup2 (pc := 6) a rfl rfl dX7_drops_6 ?_
  refine a_iald (pc := 7) a w3 (by decide) (by decide) dX7_drops_7 ?_
  refine a_iconst (pc := 8) a dX7_drops_8 ?_
  refine a_isub (pc := 9) a dX7_drops_9 ?_
  refine a_iast (pc := 10) a w3 (by decide) (by decide) dX7_drops_10 ?_
  refine a_nmS (fun s1 hx => ?_)
  replace h := h s1 hx
  clear hx
  refine a_bipush (pc := 11) a dX7_drops_11 (by decide) ?_
  refine a_iconst (pc := 13) a dX7_drops_13 ?_
  refine a_iload_n (pc := 14) a 1 dX7_drops_14 rfl rfl ?_
  refine a_imul (pc := 15) a dX7_drops_15 ?_
  refine a_iadd (pc := 16) a dX7_drops_16 ?_
  refine a_nm (fun x2 hx => ?_)
  replace h := h x2 hx
  clear hx
  refine a_istore_n (pc := 17) a (ls1 := [(2, vI x2), (0, Value.ref (ad 161)), (1, vI p1)]) dX7_drops_17 rfl (by decide) rfl ?_
  refine a_sub (ls1 := [(0, Value.ref (ad 161)), (2, vI x2)]) [1, 0] rfl ?_
  refine g_wl1s (fun x3 => [(0, Value.ref (ad 161)), (2, vI x3)]) h ?_
  clear h
  intro x3 s4 ag18 hag18 h
  refine a_iload_n (pc := 18) a 1 dX7_drops_18 rfl rfl ?_
  refine a_bipush (pc := 19) a dX7_drops_19 (by decide) ?_
  refine a_iconst (pc := 21) a dX7_drops_21 ?_
  refine a_aload_n (pc := 22) a 0 dX7_drops_22 rfl rfl ?_
  refine a_getR (pc := 23) a 0 0 rfl tb vc7 w2 w1 (by decide) (by decide) 1 (q := 162) rfl rfl dX7_drops_23 ?_
  refine a_bipush (pc := 26) a dX7_drops_26 (by decide) ?_
  refine a_iald (pc := 28) a w3 (by decide) (by decide) dX7_drops_28 ?_
  refine a_imul (pc := 29) a dX7_drops_29 ?_
  refine a_iadd (pc := 30) a dX7_drops_30 ?_
  refine a_icmp_ge (pc := 31) a h.1 h.2.1 dX7_drops_31 (tgt := 54) (by decide) (fun hq => ?_) (fun hq => ?_)
  · replace h := h.2.2.1 hq
    clear hq
    exact e_v (pc := 54) a hr dX7_drops_54 h
  · replace h := h.2.2.2 hq
    clear hq
    refine a_aload_n (pc := 34) a 0 dX7_drops_34 rfl rfl ?_
    refine a_getR (pc := 35) a 0 0 rfl tb vc7 w2 w1 (by decide) (by decide) 1 (q := 162) rfl rfl dX7_drops_35 ?_
    refine a_iload_n (pc := 38) a 1 dX7_drops_38 rfl rfl ?_
    refine a_aload_n (pc := 39) a 0 dX7_drops_39 rfl rfl ?_
    refine a_getR (pc := 40) a 0 0 rfl tb vc7 w2 w1 (by decide) (by decide) 1 (q := 162) rfl rfl dX7_drops_40 ?_
    refine a_iload_n (pc := 43) a 1 dX7_drops_43 rfl rfl ?_
    refine a_iconst (pc := 44) a dX7_drops_44 ?_
    refine a_iadd (pc := 45) a dX7_drops_45 ?_
    refine a_iald (pc := 46) a w3 (by decide) h.1 dX7_drops_46 ?_
    replace h := h.2
    refine a_iast (pc := 47) a w3 (by decide) h.1 dX7_drops_47 ?_
    replace h := h.2
    refine a_nmS (fun s5 hx => ?_)
    replace h := h s5 hx
    clear hx
    refine a_iinc (pc := 48) a (ls1 := [(2, vI (x3 + 1)), (0, Value.ref (ad 161))]) 1 dX7_drops_48 rfl (by decide) rfl ?_
    refine a_goto (pc := 51) a dX7_drops_51 (tgt := 18) (by decide) ?_
    refine a_sub (ls1 := [(0, Value.ref (ad 161)), (2, vI (x3 + 1))]) [1, 0] rfl ?_
    exact hag18 (x3 + 1) s5 h

set_option maxRecDepth 100000 in
set_option maxHeartbeats 4000000 in
theorem c_X7_removeSign {l : Launch} {D : va_G} {X : XI} {ad : Nat → Nat} (hinj : adI ad) (hl0 : l.stackTraces = false) {p1 : Int}  {σ : St} {K : Int → St → Prop} (h : f_X7_removeSign p1 σ K) (sz : Nat) : Met l yX7_removeSign (WW (.code yX7_removeSign cX7_removeSign 2 (some .int))) { frames := 2, cells := 0, slots := 0, locals := 43 } (va_Pc [Value.ref (ad 161), vI p1] (WD D X ad σ sz)) (QI D X ad sz K) 0 0 (AA ad sz) := by
  refine a_start (cc := cX7_removeSign) (maxL := 2) (ret := (some .int)) (own := RX7) [Value.ref (ad 161), vI p1] (by decide) rfl rfl (Nat.le_of_ble_eq_true rfl) hinj hl0 ?_
  intro p e s m below meth c a hr hsz
  subst hsz
  have hts := a.1.2.2.2.2
  have tb : tyc 161 (11, 0) := ⟨by decide, rfl⟩
  have w1 := hts (Cond.fieldLink RX7 7 "SightLegendModel" "s" "[I") (List.mem_cons_of_mem _ (GL_5 _ (by decide +kernel)))
  have w2 : ∀ w ∈ u_ws RX7 TX7 29, w ∈ WW (.code yX7_removeSign cX7_removeSign 2 (some .int)) := fun w h => List.mem_cons_of_mem _ (inlX7 w h)
  have w3 : tyc 162 (0, 311) := ty_of (d := 1) (t1 := (0, 311)) (by decide +kernel) rfl tb
  unfold f_X7_removeSign at h
  refine a_sub (ls1 := [(0, Value.ref (ad 161)), (1, vI p1)]) [0, 1] rfl ?_
  refine a_aload_n (pc := 0) a 0 dX7_removeSign_0 rfl rfl ?_
  refine a_iload_n (pc := 1) a 1 dX7_removeSign_1 rfl rfl ?_
  refine a_cvi (pc := 2) a (As := [vI p1]) (rest := []) tb vc7 (fun sz => c_X7_isSign hinj hl0  h sz) (cwV 1 hts (gl_V (GL_10 _ (by decide +kernel)) (GL_10 _ (by decide +kernel)) (GL_10 _ (by decide +kernel)) (GL_1 _ (by decide +kernel)) (GL_10 _ (by decide +kernel))) rfl rfl rfl (by decide +kernel) ⟨Nat.le_of_ble_eq_true rfl, Nat.le_of_ble_eq_true rfl⟩) rfl rfl (Nat.le_of_ble_eq_true rfl) ⟨Nat.le_of_ble_eq_true rfl, Nat.le_of_ble_eq_true rfl⟩ dX7_removeSign_2 ?_
  rintro x1 s9 ⟨hs9, h9⟩
  subst s9
  replace h := h9
  clear h9
  refine a_if_ne (pc := 5) a h.1 dX7_removeSign_5 (tgt := 14) (by decide) (fun hq => ?_) (fun hq => ?_)
  · replace h := h.2.1 hq
    clear hq
    refine a_aload_n (pc := 14) a 0 dX7_removeSign_14 rfl rfl ?_
    refine a_cvv (pc := 15) a (As := []) (rest := []) tb vc7 (fun sz => c_X7_hold hinj hl0  h sz) (cwV 0 hts (gl_V (GL_8 _ (by decide +kernel)) (GL_8 _ (by decide +kernel)) (GL_8 _ (by decide +kernel)) (GL_1 _ (by decide +kernel)) (GL_8 _ (by decide +kernel))) rfl rfl rfl (by decide +kernel) ⟨Nat.le_of_ble_eq_true rfl, Nat.le_of_ble_eq_true rfl⟩) rfl rfl (Nat.le_of_ble_eq_true rfl) ⟨Nat.le_of_ble_eq_true rfl, Nat.le_of_ble_eq_true rfl⟩ dX7_removeSign_15 ?_
    clear h
    intro s2 h
    refine a_aload_n (pc := 18) a 0 dX7_removeSign_18 rfl rfl ?_
    refine a_iload_n (pc := 19) a 1 dX7_removeSign_19 rfl rfl ?_
    refine a_cvv (pc := 20) a (As := [vI p1]) (rest := []) tb vc7 (fun sz => c_X7_drops hinj hl0  h sz) (cwV 1 hts (gl_V (GL_10 _ (by decide +kernel)) (GL_10 _ (by decide +kernel)) (GL_10 _ (by decide +kernel)) (GL_1 _ (by decide +kernel)) (GL_10 _ (by decide +kernel))) rfl rfl rfl (by decide +kernel) ⟨Nat.le_of_ble_eq_true rfl, Nat.le_of_ble_eq_true rfl⟩) rfl rfl (Nat.le_of_ble_eq_true rfl) ⟨Nat.le_of_ble_eq_true rfl, Nat.le_of_ble_eq_true rfl⟩ dX7_removeSign_20 ?_
    clear h
    intro s3 h
    refine a_aload_n (pc := 23) a 0 dX7_removeSign_23 rfl rfl ?_
    refine a_aload_n (pc := 24) a 0 dX7_removeSign_24 rfl rfl ?_
    refine a_getR (pc := 25) a 0 0 rfl tb vc7 w2 w1 (by decide) (by decide) 1 (q := 162) rfl rfl dX7_removeSign_25 ?_
    refine a_bipush (pc := 28) a dX7_removeSign_28 (by decide) ?_
    refine a_iald (pc := 30) a w3 (by decide) (by decide) dX7_removeSign_30 ?_
    refine a_cvi (pc := 31) a (As := [vI (s3 162 9)]) (rest := []) tb vc7 (fun sz => c_X7_ends hinj hl0  h sz) (cwV 1 hts (gl_V (GL_8 _ (by decide +kernel)) (GL_8 _ (by decide +kernel)) (GL_8 _ (by decide +kernel)) (GL_1 _ (by decide +kernel)) (GL_8 _ (by decide +kernel))) rfl rfl rfl (by decide +kernel) ⟨Nat.le_of_ble_eq_true rfl, Nat.le_of_ble_eq_true rfl⟩) rfl rfl (Nat.le_of_ble_eq_true rfl) ⟨Nat.le_of_ble_eq_true rfl, Nat.le_of_ble_eq_true rfl⟩ dX7_removeSign_31 ?_
    clear h
    intro x4 s5 h
    exact e_i (pc := 34) a hr dX7_removeSign_34 h
  · replace h := h.2.2 hq
    clear hq
    refine a_aload_n (pc := 8) a 0 dX7_removeSign_8 rfl rfl ?_
    refine a_iconst (pc := 9) a dX7_removeSign_9 ?_
    refine a_cvi (pc := 10) a (As := [vI 1]) (rest := []) tb vc7 (fun sz => c_X7_fails hinj hl0  h sz) (cwV 1 hts (gl_V (GL_8 _ (by decide +kernel)) (GL_8 _ (by decide +kernel)) (GL_8 _ (by decide +kernel)) (GL_1 _ (by decide +kernel)) (GL_8 _ (by decide +kernel))) rfl rfl rfl (by decide +kernel) ⟨Nat.le_of_ble_eq_true rfl, Nat.le_of_ble_eq_true rfl⟩) rfl rfl (Nat.le_of_ble_eq_true rfl) ⟨Nat.le_of_ble_eq_true rfl, Nat.le_of_ble_eq_true rfl⟩ dX7_removeSign_10 ?_
    clear h
    intro x6 s7 h
    exact e_i (pc := 13) a hr dX7_removeSign_13 h

set_option maxRecDepth 100000 in
set_option maxHeartbeats 4000000 in
theorem c_X7_moveSign {l : Launch} {D : va_G} {X : XI} {ad : Nat → Nat} (hinj : adI ad) (hl0 : l.stackTraces = false) {p1 : Int} {p2 : Int} {p3 : Int}  {σ : St} {K : Int → St → Prop} (h : f_X7_moveSign p1 p2 p3 σ K) (sz : Nat) : Met l yX7_moveSign (WW (.code yX7_moveSign cX7_moveSign 5 (some .int))) { frames := 2, cells := 0, slots := 0, locals := 43 } (va_Pc [Value.ref (ad 161), vI p1, vI p2, vI p3] (WD D X ad σ sz)) (QI D X ad sz K) 0 0 (AA ad sz) := by
  refine a_start (cc := cX7_moveSign) (maxL := 5) (ret := (some .int)) (own := RX7) [Value.ref (ad 161), vI p1, vI p2, vI p3] (by decide) rfl rfl (Nat.le_of_ble_eq_true rfl) hinj hl0 ?_
  intro p e s m below meth c a hr hsz
  subst hsz
  have hts := a.1.2.2.2.2
  have tb : tyc 161 (11, 0) := ⟨by decide, rfl⟩
  have w1 := hts (Cond.fieldLink RX7 7 "SightLegendModel" "s" "[I") (List.mem_cons_of_mem _ (GL_5 _ (by decide +kernel)))
  have w2 : ∀ w ∈ u_ws RX7 TX7 29, w ∈ WW (.code yX7_moveSign cX7_moveSign 5 (some .int)) := fun w h => List.mem_cons_of_mem _ (inlX7 w h)
  have w3 : tyc 162 (0, 311) := ty_of (d := 1) (t1 := (0, 311)) (by decide +kernel) rfl tb
  unfold f_X7_moveSign at h
  refine a_sub (ls1 := [(0, Value.ref (ad 161)), (1, vI p1), (2, vI p2), (3, vI p3)]) [0, 1, 2, 3] rfl ?_
  refine a_aload_n (pc := 0) a 0 dX7_moveSign_0 rfl rfl ?_
  refine a_iload_n (pc := 1) a 1 dX7_moveSign_1 rfl rfl ?_
  refine a_cvi (pc := 2) a (As := [vI p1]) (rest := []) tb vc7 (fun sz => c_X7_isSign hinj hl0  h sz) (cwV 1 hts (gl_V (GL_10 _ (by decide +kernel)) (GL_10 _ (by decide +kernel)) (GL_10 _ (by decide +kernel)) (GL_1 _ (by decide +kernel)) (GL_10 _ (by decide +kernel))) rfl rfl rfl (by decide +kernel) ⟨Nat.le_of_ble_eq_true rfl, Nat.le_of_ble_eq_true rfl⟩) rfl rfl (Nat.le_of_ble_eq_true rfl) ⟨Nat.le_of_ble_eq_true rfl, Nat.le_of_ble_eq_true rfl⟩ dX7_moveSign_2 ?_
  rintro x1 s9 ⟨hs9, h9⟩
  subst s9
  replace h := h9
  clear h9
  refine a_if_ne (pc := 5) a h.1 dX7_moveSign_5 (tgt := 14) (by decide) (fun hq => ?_) (fun hq => ?_)
  · replace h := h.2.1 hq
    clear hq
    refine a_iload_n (pc := 14) a 2 dX7_moveSign_14 rfl rfl ?_
    refine a_iconst (pc := 15) a dX7_moveSign_15 ?_
    refine a_sipush (pc := 16) a dX7_moveSign_16 (by decide) ?_
    refine a_csi (pc := 19) a (As := [vI p2, vI 0, vI 199]) (rest := []) (fun sz => c_X7_in hinj hl0  h sz) (va_cwS 3 hts (gl_S (GL_8 _ (by decide +kernel)) (GL_8 _ (by decide +kernel)) (GL_1 _ (by decide +kernel)) (GL_8 _ (by decide +kernel))) rfl rfl rfl (by decide +kernel) ⟨Nat.le_of_ble_eq_true rfl, Nat.le_of_ble_eq_true rfl⟩) rfl rfl (Nat.le_of_ble_eq_true rfl) ⟨Nat.le_of_ble_eq_true rfl, Nat.le_of_ble_eq_true rfl⟩ dX7_moveSign_19 ?_
    rintro x2 s9 ⟨hs9, h9⟩
    subst s9
    replace h := h9
    clear h9
    refine a_if_eq (pc := 22) a h.1 dX7_moveSign_22 (tgt := 36) (by decide) (fun hq => ?_) (fun hq => ?_)
    · replace h := h.2.1 hq
      clear hq
      refine a_aload_n (pc := 36) a 0 dX7_moveSign_36 rfl rfl ?_
      refine a_iconst (pc := 37) a dX7_moveSign_37 ?_
      refine a_cvi (pc := 38) a (As := [vI 2]) (rest := []) tb vc7 (fun sz => c_X7_fails hinj hl0  h sz) (cwV 1 hts (gl_V (GL_8 _ (by decide +kernel)) (GL_8 _ (by decide +kernel)) (GL_8 _ (by decide +kernel)) (GL_1 _ (by decide +kernel)) (GL_8 _ (by decide +kernel))) rfl rfl rfl (by decide +kernel) ⟨Nat.le_of_ble_eq_true rfl, Nat.le_of_ble_eq_true rfl⟩) rfl rfl (Nat.le_of_ble_eq_true rfl) ⟨Nat.le_of_ble_eq_true rfl, Nat.le_of_ble_eq_true rfl⟩ dX7_moveSign_38 ?_
      clear h
      intro x3 s4 h
      exact e_i (pc := 41) a hr dX7_moveSign_41 h
    · replace h := h.2.2 hq
      clear hq
      refine a_iload_n (pc := 25) a 3 dX7_moveSign_25 rfl rfl ?_
      refine a_iconst (pc := 26) a dX7_moveSign_26 ?_
      refine a_sipush (pc := 27) a dX7_moveSign_27 (by decide) ?_
      refine a_csi (pc := 30) a (As := [vI p3, vI 0, vI 199]) (rest := []) (fun sz => c_X7_in hinj hl0  h sz) (va_cwS 3 hts (gl_S (GL_8 _ (by decide +kernel)) (GL_8 _ (by decide +kernel)) (GL_1 _ (by decide +kernel)) (GL_8 _ (by decide +kernel))) rfl rfl rfl (by decide +kernel) ⟨Nat.le_of_ble_eq_true rfl, Nat.le_of_ble_eq_true rfl⟩) rfl rfl (Nat.le_of_ble_eq_true rfl) ⟨Nat.le_of_ble_eq_true rfl, Nat.le_of_ble_eq_true rfl⟩ dX7_moveSign_30 ?_
      rintro x5 s9 ⟨hs9, h9⟩
      subst s9
      replace h := h9
      clear h9
      refine a_if_ne (pc := 33) a h.1 dX7_moveSign_33 (tgt := 42) (by decide) (fun hq => ?_) (fun hq => ?_)
      · replace h := h.2.1 hq
        clear hq
        refine a_aload_n (pc := 42) a 0 dX7_moveSign_42 rfl rfl ?_
        refine a_cvv (pc := 43) a (As := []) (rest := []) tb vc7 (fun sz => c_X7_hold hinj hl0  h sz) (cwV 0 hts (gl_V (GL_8 _ (by decide +kernel)) (GL_8 _ (by decide +kernel)) (GL_8 _ (by decide +kernel)) (GL_1 _ (by decide +kernel)) (GL_8 _ (by decide +kernel))) rfl rfl rfl (by decide +kernel) ⟨Nat.le_of_ble_eq_true rfl, Nat.le_of_ble_eq_true rfl⟩) rfl rfl (Nat.le_of_ble_eq_true rfl) ⟨Nat.le_of_ble_eq_true rfl, Nat.le_of_ble_eq_true rfl⟩ dX7_moveSign_43 ?_
        clear h
        intro s6 h
        refine a_aload_n (pc := 46) a 0 dX7_moveSign_46 rfl rfl ?_
        refine a_iload_n (pc := 47) a 1 dX7_moveSign_47 rfl rfl ?_
        refine a_iconst (pc := 48) a dX7_moveSign_48 ?_
        refine a_cvi (pc := 49) a (As := [vI p1, vI 1]) (rest := []) tb vc7 (fun sz => c_X7_of hinj hl0  h sz) (cwV 2 hts (gl_V (GL_10 _ (by decide +kernel)) (GL_10 _ (by decide +kernel)) (GL_10 _ (by decide +kernel)) (GL_1 _ (by decide +kernel)) (GL_11 _ (by decide +kernel))) rfl rfl rfl (by decide +kernel) ⟨Nat.le_of_ble_eq_true rfl, Nat.le_of_ble_eq_true rfl⟩) rfl rfl (Nat.le_of_ble_eq_true rfl) ⟨Nat.le_of_ble_eq_true rfl, Nat.le_of_ble_eq_true rfl⟩ dX7_moveSign_49 ?_
        rintro x7 s9 ⟨hs9, h9⟩
        subst s9
        replace h := h9
        clear h9
        refine a_istore (pc := 52) a (ls1 := [(4, vI x7), (0, Value.ref (ad 161)), (1, vI p1), (2, vI p2), (3, vI p3)]) dX7_moveSign_52 (by decide) rfl ?_
        refine a_aload_n (pc := 54) a 1 dX7_moveSign_54 rfl rfl ?_
        refine a_getR (pc := 55) a 0 0 rfl tb vc7 w2 w1 (by decide) (by decide) 1 (q := 162) rfl rfl dX7_moveSign_55 ?_
        refine a_bipush (pc := 58) a dX7_moveSign_58 (by decide) ?_
        refine a_iconst (pc := 60) a dX7_moveSign_60 ?_
        refine a_iload_n (pc := 61) a 2 dX7_moveSign_61 rfl rfl ?_
        refine a_imul (pc := 62) a dX7_moveSign_62 ?_
        refine a_iadd (pc := 63) a dX7_moveSign_63 ?_
        refine a_iconst (pc := 64) a dX7_moveSign_64 ?_
        refine a_iadd (pc := 65) a dX7_moveSign_65 ?_
        refine a_iload_n (pc := 66) a 3 dX7_moveSign_66 rfl rfl ?_
        refine a_iast (pc := 67) a w3 (by decide) h.1 dX7_moveSign_67 ?_
        replace h := h.2
        refine a_nmS (fun s8 hx => ?_)
        replace h := h s8 hx
        clear hx
        refine a_aload_n (pc := 68) a 1 dX7_moveSign_68 rfl rfl ?_
        refine a_getR (pc := 69) a 0 0 rfl tb vc7 w2 w1 (by decide) (by decide) 1 (q := 162) rfl rfl dX7_moveSign_69 ?_
        refine a_bipush (pc := 72) a dX7_moveSign_72 (by decide) ?_
        refine a_iconst (pc := 74) a dX7_moveSign_74 ?_
        refine a_iload_n (pc := 75) a 2 dX7_moveSign_75 rfl rfl ?_
        refine a_imul (pc := 76) a dX7_moveSign_76 ?_
        refine a_iadd (pc := 77) a dX7_moveSign_77 ?_
        refine a_iconst (pc := 78) a dX7_moveSign_78 ?_
        refine a_iadd (pc := 79) a dX7_moveSign_79 ?_
        refine a_iload_n (pc := 80) a 4 dX7_moveSign_80 rfl rfl ?_
        refine a_iast (pc := 81) a w3 (by decide) h.1 dX7_moveSign_81 ?_
        replace h := h.2
        refine a_nmS (fun s9 hx => ?_)
        replace h := h s9 hx
        clear hx
        refine a_aload_n (pc := 82) a 1 dX7_moveSign_82 rfl rfl ?_
        refine a_iload (pc := 83) a 0 dX7_moveSign_83 rfl ?_
        refine a_cvi (pc := 85) a (As := [vI x7]) (rest := []) tb vc7 (fun sz => c_X7_ends hinj hl0  h sz) (cwV 1 hts (gl_V (GL_8 _ (by decide +kernel)) (GL_8 _ (by decide +kernel)) (GL_8 _ (by decide +kernel)) (GL_1 _ (by decide +kernel)) (GL_8 _ (by decide +kernel))) rfl rfl rfl (by decide +kernel) ⟨Nat.le_of_ble_eq_true rfl, Nat.le_of_ble_eq_true rfl⟩) rfl rfl (Nat.le_of_ble_eq_true rfl) ⟨Nat.le_of_ble_eq_true rfl, Nat.le_of_ble_eq_true rfl⟩ dX7_moveSign_85 ?_
        clear h
        intro x10 s11 h
        exact e_i (pc := 88) a hr dX7_moveSign_88 h
      · replace h := h.2.2 hq
        clear hq
        refine a_aload_n (pc := 36) a 0 dX7_moveSign_36 rfl rfl ?_
        refine a_iconst (pc := 37) a dX7_moveSign_37 ?_
        refine a_cvi (pc := 38) a (As := [vI 2]) (rest := []) tb vc7 (fun sz => c_X7_fails hinj hl0  h sz) (cwV 1 hts (gl_V (GL_8 _ (by decide +kernel)) (GL_8 _ (by decide +kernel)) (GL_8 _ (by decide +kernel)) (GL_1 _ (by decide +kernel)) (GL_8 _ (by decide +kernel))) rfl rfl rfl (by decide +kernel) ⟨Nat.le_of_ble_eq_true rfl, Nat.le_of_ble_eq_true rfl⟩) rfl rfl (Nat.le_of_ble_eq_true rfl) ⟨Nat.le_of_ble_eq_true rfl, Nat.le_of_ble_eq_true rfl⟩ dX7_moveSign_38 ?_
        clear h
        intro x12 s13 h
        exact e_i (pc := 41) a hr dX7_moveSign_41 h
  · replace h := h.2.2 hq
    clear hq
    refine a_aload_n (pc := 8) a 0 dX7_moveSign_8 rfl rfl ?_
    refine a_iconst (pc := 9) a dX7_moveSign_9 ?_
    refine a_cvi (pc := 10) a (As := [vI 1]) (rest := []) tb vc7 (fun sz => c_X7_fails hinj hl0  h sz) (cwV 1 hts (gl_V (GL_8 _ (by decide +kernel)) (GL_8 _ (by decide +kernel)) (GL_8 _ (by decide +kernel)) (GL_1 _ (by decide +kernel)) (GL_8 _ (by decide +kernel))) rfl rfl rfl (by decide +kernel) ⟨Nat.le_of_ble_eq_true rfl, Nat.le_of_ble_eq_true rfl⟩) rfl rfl (Nat.le_of_ble_eq_true rfl) ⟨Nat.le_of_ble_eq_true rfl, Nat.le_of_ble_eq_true rfl⟩ dX7_moveSign_10 ?_
    clear h
    intro x14 s15 h
    exact e_i (pc := 13) a hr dX7_moveSign_13 h

set_option maxRecDepth 100000 in
set_option maxHeartbeats 4000000 in
theorem c_X7_setWindow {l : Launch} {D : va_G} {X : XI} {ad : Nat → Nat} (hinj : adI ad) (hl0 : l.stackTraces = false) {p1 : Int} {p2 : Int} {p3 : Int} {p4 : Int} {p5 : Int}  {σ : St} {K : Int → St → Prop} (h : f_X7_setWindow p1 p2 p3 p4 p5 σ K) (sz : Nat) : Met l yX7_setWindow (WW (.code yX7_setWindow cX7_setWindow 6 (some .int))) { frames := 4, cells := 0, slots := 0, locals := 86 } (va_Pc [Value.ref (ad 161), vI p1, vI p2, vI p3, vI p4, vI p5] (WD D X ad σ sz)) (QI D X ad sz K) 0 0 (AA ad sz) := by
  refine a_start (cc := cX7_setWindow) (maxL := 6) (ret := (some .int)) (own := RX7) [Value.ref (ad 161), vI p1, vI p2, vI p3, vI p4, vI p5] (by decide) rfl rfl (Nat.le_of_ble_eq_true rfl) hinj hl0 ?_
  intro p e s m below meth c a hr hsz
  subst hsz
  have hts := a.1.2.2.2.2
  have tb : tyc 161 (11, 0) := ⟨by decide, rfl⟩
  have w1 := hts (Cond.fieldLink RX7 7 "SightLegendModel" "s" "[I") (List.mem_cons_of_mem _ (GL_5 _ (by decide +kernel)))
  have w2 : ∀ w ∈ u_ws RX7 TX7 29, w ∈ WW (.code yX7_setWindow cX7_setWindow 6 (some .int)) := fun w h => List.mem_cons_of_mem _ (inlX7 w h)
  have w3 : tyc 162 (0, 311) := ty_of (d := 1) (t1 := (0, 311)) (by decide +kernel) rfl tb
  unfold f_X7_setWindow at h
  refine a_sub (ls1 := [(0, Value.ref (ad 161)), (1, vI p1), (2, vI p2), (3, vI p3), (4, vI p4), (5, vI p5)]) [0, 1, 2, 3, 4, 5] rfl ?_
  refine a_iload_n (pc := 0) a 1 dX7_setWindow_0 rfl rfl ?_
  refine a_iconst (pc := 1) a dX7_setWindow_1 ?_
  refine a_sipush (pc := 2) a dX7_setWindow_2 (by decide) ?_
  refine a_csi (pc := 5) a (As := [vI p1, vI 0, vI 199]) (rest := []) (fun sz => c_X7_in hinj hl0  h sz) (va_cwS 3 hts (gl_S (GL_8 _ (by decide +kernel)) (GL_8 _ (by decide +kernel)) (GL_1 _ (by decide +kernel)) (GL_8 _ (by decide +kernel))) rfl rfl rfl (by decide +kernel) ⟨Nat.le_of_ble_eq_true rfl, Nat.le_of_ble_eq_true rfl⟩) rfl rfl (Nat.le_of_ble_eq_true rfl) ⟨Nat.le_of_ble_eq_true rfl, Nat.le_of_ble_eq_true rfl⟩ dX7_setWindow_5 ?_
  rintro x1 s9 ⟨hs9, h9⟩
  subst s9
  replace h := h9
  clear h9
  refine a_if_eq (pc := 8) a h.1 dX7_setWindow_8 (tgt := 57) (by decide) (fun hq => ?_) (fun hq => ?_)
  · replace h := h.2.1 hq
    clear hq
    refine a_aload_n (pc := 57) a 0 dX7_setWindow_57 rfl rfl ?_
    refine a_iconst (pc := 58) a dX7_setWindow_58 ?_
    refine a_cvi (pc := 59) a (As := [vI 1]) (rest := []) tb vc7 (fun sz => c_X7_fails hinj hl0  h sz) (cwV 1 hts (gl_V (GL_8 _ (by decide +kernel)) (GL_8 _ (by decide +kernel)) (GL_8 _ (by decide +kernel)) (GL_1 _ (by decide +kernel)) (GL_8 _ (by decide +kernel))) rfl rfl rfl (by decide +kernel) ⟨Nat.le_of_ble_eq_true rfl, Nat.le_of_ble_eq_true rfl⟩) rfl rfl (Nat.le_of_ble_eq_true rfl) ⟨Nat.le_of_ble_eq_true rfl, Nat.le_of_ble_eq_true rfl⟩ dX7_setWindow_59 ?_
    clear h
    intro x2 s3 h
    exact e_i (pc := 62) a hr dX7_setWindow_62 h
  · replace h := h.2.2 hq
    clear hq
    refine a_iload_n (pc := 11) a 2 dX7_setWindow_11 rfl rfl ?_
    refine a_iconst (pc := 12) a dX7_setWindow_12 ?_
    refine a_sipush (pc := 13) a dX7_setWindow_13 (by decide) ?_
    refine a_csi (pc := 16) a (As := [vI p2, vI 0, vI 199]) (rest := []) (fun sz => c_X7_in hinj hl0  h sz) (va_cwS 3 hts (gl_S (GL_8 _ (by decide +kernel)) (GL_8 _ (by decide +kernel)) (GL_1 _ (by decide +kernel)) (GL_8 _ (by decide +kernel))) rfl rfl rfl (by decide +kernel) ⟨Nat.le_of_ble_eq_true rfl, Nat.le_of_ble_eq_true rfl⟩) rfl rfl (Nat.le_of_ble_eq_true rfl) ⟨Nat.le_of_ble_eq_true rfl, Nat.le_of_ble_eq_true rfl⟩ dX7_setWindow_16 ?_
    rintro x4 s9 ⟨hs9, h9⟩
    subst s9
    replace h := h9
    clear h9
    refine a_if_eq (pc := 19) a h.1 dX7_setWindow_19 (tgt := 57) (by decide) (fun hq => ?_) (fun hq => ?_)
    · replace h := h.2.1 hq
      clear hq
      refine a_aload_n (pc := 57) a 0 dX7_setWindow_57 rfl rfl ?_
      refine a_iconst (pc := 58) a dX7_setWindow_58 ?_
      refine a_cvi (pc := 59) a (As := [vI 1]) (rest := []) tb vc7 (fun sz => c_X7_fails hinj hl0  h sz) (cwV 1 hts (gl_V (GL_8 _ (by decide +kernel)) (GL_8 _ (by decide +kernel)) (GL_8 _ (by decide +kernel)) (GL_1 _ (by decide +kernel)) (GL_8 _ (by decide +kernel))) rfl rfl rfl (by decide +kernel) ⟨Nat.le_of_ble_eq_true rfl, Nat.le_of_ble_eq_true rfl⟩) rfl rfl (Nat.le_of_ble_eq_true rfl) ⟨Nat.le_of_ble_eq_true rfl, Nat.le_of_ble_eq_true rfl⟩ dX7_setWindow_59 ?_
      clear h
      intro x5 s6 h
      exact e_i (pc := 62) a hr dX7_setWindow_62 h
    · replace h := h.2.2 hq
      clear hq
      refine a_iload_n (pc := 22) a 3 dX7_setWindow_22 rfl rfl ?_
      refine a_bipush (pc := 23) a dX7_setWindow_23 (by decide) ?_
      refine a_sipush (pc := 25) a dX7_setWindow_25 (by decide) ?_
      refine a_csi (pc := 28) a (As := [vI p3, vI 10, vI 200]) (rest := []) (fun sz => c_X7_in hinj hl0  h sz) (va_cwS 3 hts (gl_S (GL_8 _ (by decide +kernel)) (GL_8 _ (by decide +kernel)) (GL_1 _ (by decide +kernel)) (GL_8 _ (by decide +kernel))) rfl rfl rfl (by decide +kernel) ⟨Nat.le_of_ble_eq_true rfl, Nat.le_of_ble_eq_true rfl⟩) rfl rfl (Nat.le_of_ble_eq_true rfl) ⟨Nat.le_of_ble_eq_true rfl, Nat.le_of_ble_eq_true rfl⟩ dX7_setWindow_28 ?_
      rintro x7 s9 ⟨hs9, h9⟩
      subst s9
      replace h := h9
      clear h9
      refine a_if_eq (pc := 31) a h.1 dX7_setWindow_31 (tgt := 57) (by decide) (fun hq => ?_) (fun hq => ?_)
      · replace h := h.2.1 hq
        clear hq
        refine a_aload_n (pc := 57) a 0 dX7_setWindow_57 rfl rfl ?_
        refine a_iconst (pc := 58) a dX7_setWindow_58 ?_
        refine a_cvi (pc := 59) a (As := [vI 1]) (rest := []) tb vc7 (fun sz => c_X7_fails hinj hl0  h sz) (cwV 1 hts (gl_V (GL_8 _ (by decide +kernel)) (GL_8 _ (by decide +kernel)) (GL_8 _ (by decide +kernel)) (GL_1 _ (by decide +kernel)) (GL_8 _ (by decide +kernel))) rfl rfl rfl (by decide +kernel) ⟨Nat.le_of_ble_eq_true rfl, Nat.le_of_ble_eq_true rfl⟩) rfl rfl (Nat.le_of_ble_eq_true rfl) ⟨Nat.le_of_ble_eq_true rfl, Nat.le_of_ble_eq_true rfl⟩ dX7_setWindow_59 ?_
        clear h
        intro x8 s9 h
        exact e_i (pc := 62) a hr dX7_setWindow_62 h
      · replace h := h.2.2 hq
        clear hq
        refine a_iload (pc := 34) a 4 dX7_setWindow_34 rfl ?_
        refine a_bipush (pc := 36) a dX7_setWindow_36 (by decide) ?_
        refine a_sipush (pc := 38) a dX7_setWindow_38 (by decide) ?_
        refine a_csi (pc := 41) a (As := [vI p4, vI 10, vI 200]) (rest := []) (fun sz => c_X7_in hinj hl0  h sz) (va_cwS 3 hts (gl_S (GL_8 _ (by decide +kernel)) (GL_8 _ (by decide +kernel)) (GL_1 _ (by decide +kernel)) (GL_8 _ (by decide +kernel))) rfl rfl rfl (by decide +kernel) ⟨Nat.le_of_ble_eq_true rfl, Nat.le_of_ble_eq_true rfl⟩) rfl rfl (Nat.le_of_ble_eq_true rfl) ⟨Nat.le_of_ble_eq_true rfl, Nat.le_of_ble_eq_true rfl⟩ dX7_setWindow_41 ?_
        rintro x10 s9 ⟨hs9, h9⟩
        subst s9
        replace h := h9
        clear h9
        refine a_if_eq (pc := 44) a h.1 dX7_setWindow_44 (tgt := 57) (by decide) (fun hq => ?_) (fun hq => ?_)
        · replace h := h.2.1 hq
          clear hq
          refine a_aload_n (pc := 57) a 0 dX7_setWindow_57 rfl rfl ?_
          refine a_iconst (pc := 58) a dX7_setWindow_58 ?_
          refine a_cvi (pc := 59) a (As := [vI 1]) (rest := []) tb vc7 (fun sz => c_X7_fails hinj hl0  h sz) (cwV 1 hts (gl_V (GL_8 _ (by decide +kernel)) (GL_8 _ (by decide +kernel)) (GL_8 _ (by decide +kernel)) (GL_1 _ (by decide +kernel)) (GL_8 _ (by decide +kernel))) rfl rfl rfl (by decide +kernel) ⟨Nat.le_of_ble_eq_true rfl, Nat.le_of_ble_eq_true rfl⟩) rfl rfl (Nat.le_of_ble_eq_true rfl) ⟨Nat.le_of_ble_eq_true rfl, Nat.le_of_ble_eq_true rfl⟩ dX7_setWindow_59 ?_
          clear h
          intro x11 s12 h
          exact e_i (pc := 62) a hr dX7_setWindow_62 h
        · replace h := h.2.2 hq
          clear hq
          refine a_iload (pc := 47) a 5 dX7_setWindow_47 rfl ?_
          refine a_iconst (pc := 49) a dX7_setWindow_49 ?_
          refine a_iconst (pc := 50) a dX7_setWindow_50 ?_
          refine a_csi (pc := 51) a (As := [vI p5, vI 0, vI 5]) (rest := []) (fun sz => c_X7_in hinj hl0  h sz) (va_cwS 3 hts (gl_S (GL_8 _ (by decide +kernel)) (GL_8 _ (by decide +kernel)) (GL_1 _ (by decide +kernel)) (GL_8 _ (by decide +kernel))) rfl rfl rfl (by decide +kernel) ⟨Nat.le_of_ble_eq_true rfl, Nat.le_of_ble_eq_true rfl⟩) rfl rfl (Nat.le_of_ble_eq_true rfl) ⟨Nat.le_of_ble_eq_true rfl, Nat.le_of_ble_eq_true rfl⟩ dX7_setWindow_51 ?_
          rintro x13 s9 ⟨hs9, h9⟩
          subst s9
          replace h := h9
          clear h9
          refine a_if_ne (pc := 54) a h.1 dX7_setWindow_54 (tgt := 63) (by decide) (fun hq => ?_) (fun hq => ?_)
          · replace h := h.2.1 hq
            clear hq
            refine a_aload_n (pc := 63) a 0 dX7_setWindow_63 rfl rfl ?_
            refine a_cvv (pc := 64) a (As := []) (rest := []) tb vc7 (fun sz => c_X7_hold hinj hl0  h sz) (cwV 0 hts (gl_V (GL_8 _ (by decide +kernel)) (GL_8 _ (by decide +kernel)) (GL_8 _ (by decide +kernel)) (GL_1 _ (by decide +kernel)) (GL_8 _ (by decide +kernel))) rfl rfl rfl (by decide +kernel) ⟨Nat.le_of_ble_eq_true rfl, Nat.le_of_ble_eq_true rfl⟩) rfl rfl (Nat.le_of_ble_eq_true rfl) ⟨Nat.le_of_ble_eq_true rfl, Nat.le_of_ble_eq_true rfl⟩ dX7_setWindow_64 ?_
            clear h
            intro s14 h
            refine a_aload_n (pc := 67) a 0 dX7_setWindow_67 rfl rfl ?_
            refine a_getR (pc := 68) a 0 0 rfl tb vc7 w2 w1 (by decide) (by decide) 1 (q := 162) rfl rfl dX7_setWindow_68 ?_
            refine a_iconst (pc := 71) a dX7_setWindow_71 ?_
            refine a_iload_n (pc := 72) a 1 dX7_setWindow_72 rfl rfl ?_
            refine a_iast (pc := 73) a w3 (by decide) (by decide) dX7_setWindow_73 ?_
            refine a_nmS (fun s15 hx => ?_)
            replace h := h s15 hx
            clear hx
            refine a_aload_n (pc := 74) a 0 dX7_setWindow_74 rfl rfl ?_
            refine a_getR (pc := 75) a 0 0 rfl tb vc7 w2 w1 (by decide) (by decide) 1 (q := 162) rfl rfl dX7_setWindow_75 ?_
            refine a_iconst (pc := 78) a dX7_setWindow_78 ?_
            refine a_iload_n (pc := 79) a 2 dX7_setWindow_79 rfl rfl ?_
            refine a_iast (pc := 80) a w3 (by decide) (by decide) dX7_setWindow_80 ?_
            refine a_nmS (fun s16 hx => ?_)
            replace h := h s16 hx
            clear hx
            refine a_aload_n (pc := 81) a 0 dX7_setWindow_81 rfl rfl ?_
            refine a_getR (pc := 82) a 0 0 rfl tb vc7 w2 w1 (by decide) (by decide) 1 (q := 162) rfl rfl dX7_setWindow_82 ?_
            refine a_bipush (pc := 85) a dX7_setWindow_85 (by decide) ?_
            refine a_iload_n (pc := 87) a 3 dX7_setWindow_87 rfl rfl ?_
            refine a_iast (pc := 88) a w3 (by decide) (by decide) dX7_setWindow_88 ?_
            refine a_nmS (fun s17 hx => ?_)
            replace h := h s17 hx
            clear hx
            refine a_aload_n (pc := 89) a 0 dX7_setWindow_89 rfl rfl ?_
            refine a_getR (pc := 90) a 0 0 rfl tb vc7 w2 w1 (by decide) (by decide) 1 (q := 162) rfl rfl dX7_setWindow_90 ?_
            refine a_bipush (pc := 93) a dX7_setWindow_93 (by decide) ?_
            refine a_iload (pc := 95) a 4 dX7_setWindow_95 rfl ?_
            refine a_iast (pc := 97) a w3 (by decide) (by decide) dX7_setWindow_97 ?_
            refine a_nmS (fun s18 hx => ?_)
            replace h := h s18 hx
            clear hx
            refine a_aload_n (pc := 98) a 0 dX7_setWindow_98 rfl rfl ?_
            refine a_getR (pc := 99) a 0 0 rfl tb vc7 w2 w1 (by decide) (by decide) 1 (q := 162) rfl rfl dX7_setWindow_99 ?_
            refine a_bipush (pc := 102) a dX7_setWindow_102 (by decide) ?_
            refine a_iload (pc := 104) a 5 dX7_setWindow_104 rfl ?_
            refine a_iast (pc := 106) a w3 (by decide) (by decide) dX7_setWindow_106 ?_
            refine a_nmS (fun s19 hx => ?_)
            replace h := h s19 hx
            clear hx
            refine a_aload_n (pc := 107) a 0 dX7_setWindow_107 rfl rfl ?_
            refine a_aload_n (pc := 108) a 0 dX7_setWindow_108 rfl rfl ?_
            refine a_cvi (pc := 109) a (As := []) (rest := [Value.ref (ad 161)]) tb vc7 (fun sz => c_X7_shownMany hinj hl0  h sz) (cwV 0 hts (gl_V (GL_12 _ (by decide +kernel)) (GL_12 _ (by decide +kernel)) (GL_12 _ (by decide +kernel)) (GL_1 _ (by decide +kernel)) (GL_12 _ (by decide +kernel))) rfl rfl rfl (by decide +kernel) ⟨Nat.le_of_ble_eq_true rfl, Nat.le_of_ble_eq_true rfl⟩) rfl rfl (Nat.le_of_ble_eq_true rfl) ⟨Nat.le_of_ble_eq_true rfl, Nat.le_of_ble_eq_true rfl⟩ dX7_setWindow_109 ?_
            rintro x20 s9 ⟨hs9, h9⟩
            subst s9
            replace h := h9
            clear h9
            refine a_cvi (pc := 112) a (As := [vI x20]) (rest := []) tb vc7 (fun sz => c_X7_ends hinj hl0  h sz) (cwV 1 hts (gl_V (GL_8 _ (by decide +kernel)) (GL_8 _ (by decide +kernel)) (GL_8 _ (by decide +kernel)) (GL_1 _ (by decide +kernel)) (GL_8 _ (by decide +kernel))) rfl rfl rfl (by decide +kernel) ⟨Nat.le_of_ble_eq_true rfl, Nat.le_of_ble_eq_true rfl⟩) rfl rfl (Nat.le_of_ble_eq_true rfl) ⟨Nat.le_of_ble_eq_true rfl, Nat.le_of_ble_eq_true rfl⟩ dX7_setWindow_112 ?_
            clear h
            intro x21 s22 h
            exact e_i (pc := 115) a hr dX7_setWindow_115 h
          · replace h := h.2.2 hq
            clear hq
            refine a_aload_n (pc := 57) a 0 dX7_setWindow_57 rfl rfl ?_
            refine a_iconst (pc := 58) a dX7_setWindow_58 ?_
            refine a_cvi (pc := 59) a (As := [vI 1]) (rest := []) tb vc7 (fun sz => c_X7_fails hinj hl0  h sz) (cwV 1 hts (gl_V (GL_8 _ (by decide +kernel)) (GL_8 _ (by decide +kernel)) (GL_8 _ (by decide +kernel)) (GL_1 _ (by decide +kernel)) (GL_8 _ (by decide +kernel))) rfl rfl rfl (by decide +kernel) ⟨Nat.le_of_ble_eq_true rfl, Nat.le_of_ble_eq_true rfl⟩) rfl rfl (Nat.le_of_ble_eq_true rfl) ⟨Nat.le_of_ble_eq_true rfl, Nat.le_of_ble_eq_true rfl⟩ dX7_setWindow_59 ?_
            clear h
            intro x23 s24 h
            exact e_i (pc := 62) a hr dX7_setWindow_62 h

set_option maxRecDepth 100000 in
set_option maxHeartbeats 4000000 in
theorem c_X7_mostOf {l : Launch} {D : va_G} {X : XI} {ad : Nat → Nat} (hinj : adI ad) (hl0 : l.stackTraces = false) {p1 : Int}  {σ : St} {K : Int → Prop} (h : f_X7_mostOf p1 σ K) (sz : Nat) : Met l yX7_mostOf (WW (.code yX7_mostOf cX7_mostOf 1 (some .int))) { frames := 0, cells := 0, slots := 0, locals := 0 } (va_Pc [vI p1] (WD D X ad σ sz)) (QI D X ad sz (fun r τ => τ = σ ∧ K r)) 0 0 (AA ad sz) := by
  refine a_start (cc := cX7_mostOf) (maxL := 1) (ret := (some .int)) (own := RX7) [vI p1] (by decide) rfl rfl (Nat.le_of_ble_eq_true rfl) hinj hl0 ?_
  intro p e s m below meth c a hr hsz
  subst hsz
  have hts := a.1.2.2.2.2
  unfold f_X7_mostOf at h
  refine a_sub (ls1 := [(0, vI p1)]) [0] rfl ?_
  refine a_iload_n (pc := 0) a 0 dX7_mostOf_0 rfl rfl ?_
  refine a_if_ne (pc := 1) a h.1 dX7_mostOf_1 (tgt := 9) (by decide) (fun hq => ?_) (fun hq => ?_)
  · replace h := h.2.1 hq
    clear hq
    refine a_iload_n (pc := 9) a 0 dX7_mostOf_9 rfl rfl ?_
    refine a_iconst (pc := 10) a dX7_mostOf_10 ?_
    refine a_icmp_ne (pc := 11) a h.1 ⟨by decide, by decide⟩ dX7_mostOf_11 (tgt := 18) (by decide) (fun hq => ?_) (fun hq => ?_)
    · replace h := h.2.1 hq
      clear hq
      refine a_iload_n (pc := 18) a 0 dX7_mostOf_18 rfl rfl ?_
      refine a_iconst (pc := 19) a dX7_mostOf_19 ?_
      refine a_icmp_ne (pc := 20) a h.1 ⟨by decide, by decide⟩ dX7_mostOf_20 (tgt := 28) (by decide) (fun hq => ?_) (fun hq => ?_)
      · replace h := h.2.1 hq
        clear hq
        refine a_bipush (pc := 28) a dX7_mostOf_28 (by decide) ?_
        exact e_i (pc := 30) a hr dX7_mostOf_30 ⟨rfl, h⟩
      · replace h := h.2.2 hq
        clear hq
        refine a_bipush (pc := 23) a dX7_mostOf_23 (by decide) ?_
        refine a_goto (pc := 25) a dX7_mostOf_25 (tgt := 30) (by decide) ?_
        exact e_i (pc := 30) a hr dX7_mostOf_30 ⟨rfl, h⟩
    · replace h := h.2.2 hq
      clear hq
      refine a_iconst (pc := 14) a dX7_mostOf_14 ?_
      refine a_goto (pc := 15) a dX7_mostOf_15 (tgt := 30) (by decide) ?_
      exact e_i (pc := 30) a hr dX7_mostOf_30 ⟨rfl, h⟩
  · replace h := h.2.2 hq
    clear hq
    refine a_bipush (pc := 4) a dX7_mostOf_4 (by decide) ?_
    refine a_goto (pc := 6) a dX7_mostOf_6 (tgt := 30) (by decide) ?_
    exact e_i (pc := 30) a hr dX7_mostOf_30 ⟨rfl, h⟩

set_option maxRecDepth 100000 in
set_option maxHeartbeats 4000000 in
theorem c_X7_set {l : Launch} {D : va_G} {X : XI} {ad : Nat → Nat} (hinj : adI ad) (hl0 : l.stackTraces = false) {p1 : Int} {p2 : Int}  {σ : St} {K : Int → St → Prop} (h : f_X7_set p1 p2 σ K) (sz : Nat) : Met l yX7_set (WW (.code yX7_set cX7_set 4 (some .int))) { frames := 2, cells := 0, slots := 0, locals := 43 } (va_Pc [Value.ref (ad 161), vI p1, vI p2] (WD D X ad σ sz)) (QI D X ad sz K) 0 0 (AA ad sz) := by
  refine a_start (cc := cX7_set) (maxL := 4) (ret := (some .int)) (own := RX7) [Value.ref (ad 161), vI p1, vI p2] (by decide) rfl rfl (Nat.le_of_ble_eq_true rfl) hinj hl0 ?_
  intro p e s m below meth c a hr hsz
  subst hsz
  have hts := a.1.2.2.2.2
  have tb : tyc 161 (11, 0) := ⟨by decide, rfl⟩
  have w1 := hts (Cond.fieldLink RX7 7 "SightLegendModel" "s" "[I") (List.mem_cons_of_mem _ (GL_5 _ (by decide +kernel)))
  have w2 : ∀ w ∈ u_ws RX7 TX7 29, w ∈ WW (.code yX7_set cX7_set 4 (some .int)) := fun w h => List.mem_cons_of_mem _ (inlX7 w h)
  have w3 : tyc 162 (0, 311) := ty_of (d := 1) (t1 := (0, 311)) (by decide +kernel) rfl tb
  unfold f_X7_set at h
  refine a_sub (ls1 := [(0, Value.ref (ad 161)), (1, vI p1), (2, vI p2)]) [0, 1, 2] rfl ?_
  refine a_iload_n (pc := 0) a 1 dX7_set_0 rfl rfl ?_
  refine a_iconst (pc := 1) a dX7_set_1 ?_
  refine a_iconst (pc := 2) a dX7_set_2 ?_
  refine a_csi (pc := 3) a (As := [vI p1, vI 0, vI 3]) (rest := []) (fun sz => c_X7_in hinj hl0  h sz) (va_cwS 3 hts (gl_S (GL_8 _ (by decide +kernel)) (GL_8 _ (by decide +kernel)) (GL_1 _ (by decide +kernel)) (GL_8 _ (by decide +kernel))) rfl rfl rfl (by decide +kernel) ⟨Nat.le_of_ble_eq_true rfl, Nat.le_of_ble_eq_true rfl⟩) rfl rfl (Nat.le_of_ble_eq_true rfl) ⟨Nat.le_of_ble_eq_true rfl, Nat.le_of_ble_eq_true rfl⟩ dX7_set_3 ?_
  rintro x1 s9 ⟨hs9, h9⟩
  subst s9
  replace h := h9
  clear h9
  refine a_if_eq (pc := 6) a h.1 dX7_set_6 (tgt := 21) (by decide) (fun hq => ?_) (fun hq => ?_)
  · replace h := h.2.1 hq
    clear hq
    refine a_aload_n (pc := 21) a 0 dX7_set_21 rfl rfl ?_
    refine a_iconst (pc := 22) a dX7_set_22 ?_
    refine a_cvi (pc := 23) a (As := [vI 1]) (rest := []) tb vc7 (fun sz => c_X7_fails hinj hl0  h sz) (cwV 1 hts (gl_V (GL_8 _ (by decide +kernel)) (GL_8 _ (by decide +kernel)) (GL_8 _ (by decide +kernel)) (GL_1 _ (by decide +kernel)) (GL_8 _ (by decide +kernel))) rfl rfl rfl (by decide +kernel) ⟨Nat.le_of_ble_eq_true rfl, Nat.le_of_ble_eq_true rfl⟩) rfl rfl (Nat.le_of_ble_eq_true rfl) ⟨Nat.le_of_ble_eq_true rfl, Nat.le_of_ble_eq_true rfl⟩ dX7_set_23 ?_
    clear h
    intro x2 s3 h
    exact e_i (pc := 26) a hr dX7_set_26 h
  · replace h := h.2.2 hq
    clear hq
    refine a_iload_n (pc := 9) a 2 dX7_set_9 rfl rfl ?_
    refine a_iconst (pc := 10) a dX7_set_10 ?_
    refine a_iload_n (pc := 11) a 1 dX7_set_11 rfl rfl ?_
    refine a_csi (pc := 12) a (As := [vI p1]) (rest := [vI 1, vI p2]) (fun sz => c_X7_mostOf hinj hl0  h sz) (va_cwS 1 hts (gl_S (GL_13 _ (by decide +kernel)) (GL_13 _ (by decide +kernel)) (GL_1 _ (by decide +kernel)) (GL_13 _ (by decide +kernel))) rfl rfl rfl (by decide +kernel) ⟨Nat.le_of_ble_eq_true rfl, Nat.le_of_ble_eq_true rfl⟩) rfl rfl (Nat.le_of_ble_eq_true rfl) ⟨Nat.le_of_ble_eq_true rfl, Nat.le_of_ble_eq_true rfl⟩ dX7_set_12 ?_
    rintro x4 s9 ⟨hs9, h9⟩
    subst s9
    replace h := h9
    clear h9
    refine a_csi (pc := 15) a (As := [vI p2, vI 1, vI x4]) (rest := []) (fun sz => c_X7_in hinj hl0  h sz) (va_cwS 3 hts (gl_S (GL_8 _ (by decide +kernel)) (GL_8 _ (by decide +kernel)) (GL_1 _ (by decide +kernel)) (GL_8 _ (by decide +kernel))) rfl rfl rfl (by decide +kernel) ⟨Nat.le_of_ble_eq_true rfl, Nat.le_of_ble_eq_true rfl⟩) rfl rfl (Nat.le_of_ble_eq_true rfl) ⟨Nat.le_of_ble_eq_true rfl, Nat.le_of_ble_eq_true rfl⟩ dX7_set_15 ?_
    rintro x5 s9 ⟨hs9, h9⟩
    subst s9
    replace h := h9
    clear h9
    refine a_if_ne (pc := 18) a h.1 dX7_set_18 (tgt := 27) (by decide) (fun hq => ?_) (fun hq => ?_)
    · replace h := h.2.1 hq
      clear hq
      refine a_aload_n (pc := 27) a 0 dX7_set_27 rfl rfl ?_
      refine a_cvv (pc := 28) a (As := []) (rest := []) tb vc7 (fun sz => c_X7_hold hinj hl0  h sz) (cwV 0 hts (gl_V (GL_8 _ (by decide +kernel)) (GL_8 _ (by decide +kernel)) (GL_8 _ (by decide +kernel)) (GL_1 _ (by decide +kernel)) (GL_8 _ (by decide +kernel))) rfl rfl rfl (by decide +kernel) ⟨Nat.le_of_ble_eq_true rfl, Nat.le_of_ble_eq_true rfl⟩) rfl rfl (Nat.le_of_ble_eq_true rfl) ⟨Nat.le_of_ble_eq_true rfl, Nat.le_of_ble_eq_true rfl⟩ dX7_set_28 ?_
      clear h
      intro s6 h
      refine a_aload_n (pc := 31) a 0 dX7_set_31 rfl rfl ?_
      refine a_getR (pc := 32) a 0 0 rfl tb vc7 w2 w1 (by decide) (by decide) 1 (q := 162) rfl rfl dX7_set_32 ?_
      refine a_iload_n (pc := 35) a 1 dX7_set_35 rfl rfl ?_
      refine a_iald (pc := 36) a w3 (by decide) h.1 dX7_set_36 ?_
      replace h := h.2
      refine a_nm (fun x7 hx => ?_)
      replace h := h x7 hx
      clear hx
      refine a_istore_n (pc := 37) a (ls1 := [(3, vI x7), (0, Value.ref (ad 161)), (1, vI p1), (2, vI p2)]) dX7_set_37 rfl (by decide) rfl ?_
      refine a_aload_n (pc := 38) a 1 dX7_set_38 rfl rfl ?_
      refine a_getR (pc := 39) a 0 0 rfl tb vc7 w2 w1 (by decide) (by decide) 1 (q := 162) rfl rfl dX7_set_39 ?_
      refine a_iload_n (pc := 42) a 2 dX7_set_42 rfl rfl ?_
      refine a_iload_n (pc := 43) a 3 dX7_set_43 rfl rfl ?_
      refine a_iast (pc := 44) a w3 (by decide) h.1 dX7_set_44 ?_
      replace h := h.2
      refine a_nmS (fun s8 hx => ?_)
      replace h := h s8 hx
      clear hx
      refine a_aload_n (pc := 45) a 1 dX7_set_45 rfl rfl ?_
      refine a_iload_n (pc := 46) a 0 dX7_set_46 rfl rfl ?_
      refine a_cvi (pc := 47) a (As := [vI x7]) (rest := []) tb vc7 (fun sz => c_X7_ends hinj hl0  h sz) (cwV 1 hts (gl_V (GL_8 _ (by decide +kernel)) (GL_8 _ (by decide +kernel)) (GL_8 _ (by decide +kernel)) (GL_1 _ (by decide +kernel)) (GL_8 _ (by decide +kernel))) rfl rfl rfl (by decide +kernel) ⟨Nat.le_of_ble_eq_true rfl, Nat.le_of_ble_eq_true rfl⟩) rfl rfl (Nat.le_of_ble_eq_true rfl) ⟨Nat.le_of_ble_eq_true rfl, Nat.le_of_ble_eq_true rfl⟩ dX7_set_47 ?_
      clear h
      intro x9 s10 h
      exact e_i (pc := 50) a hr dX7_set_50 h
    · replace h := h.2.2 hq
      clear hq
      refine a_aload_n (pc := 21) a 0 dX7_set_21 rfl rfl ?_
      refine a_iconst (pc := 22) a dX7_set_22 ?_
      refine a_cvi (pc := 23) a (As := [vI 1]) (rest := []) tb vc7 (fun sz => c_X7_fails hinj hl0  h sz) (cwV 1 hts (gl_V (GL_8 _ (by decide +kernel)) (GL_8 _ (by decide +kernel)) (GL_8 _ (by decide +kernel)) (GL_1 _ (by decide +kernel)) (GL_8 _ (by decide +kernel))) rfl rfl rfl (by decide +kernel) ⟨Nat.le_of_ble_eq_true rfl, Nat.le_of_ble_eq_true rfl⟩) rfl rfl (Nat.le_of_ble_eq_true rfl) ⟨Nat.le_of_ble_eq_true rfl, Nat.le_of_ble_eq_true rfl⟩ dX7_set_23 ?_
      clear h
      intro x11 s12 h
      exact e_i (pc := 26) a hr dX7_set_26 h

set_option maxRecDepth 100000 in
set_option maxHeartbeats 4000000 in
theorem c_X7_setKind {l : Launch} {D : va_G} {X : XI} {ad : Nat → Nat} (hinj : adI ad) (hl0 : l.stackTraces = false) {p1 : Int} {p2 : Int} {p3 : Int}  {σ : St} {K : Int → St → Prop} (h : f_X7_setKind p1 p2 p3 σ K) (sz : Nat) : Met l yX7_setKind (WW (.code yX7_setKind cX7_setKind 5 (some .int))) { frames := 2, cells := 0, slots := 0, locals := 43 } (va_Pc [Value.ref (ad 161), vI p1, vI p2, vI p3] (WD D X ad σ sz)) (QI D X ad sz K) 0 0 (AA ad sz) := by
  refine a_start (cc := cX7_setKind) (maxL := 5) (ret := (some .int)) (own := RX7) [Value.ref (ad 161), vI p1, vI p2, vI p3] (by decide) rfl rfl (Nat.le_of_ble_eq_true rfl) hinj hl0 ?_
  intro p e s m below meth c a hr hsz
  subst hsz
  have hts := a.1.2.2.2.2
  have tb : tyc 161 (11, 0) := ⟨by decide, rfl⟩
  have w1 := hts (Cond.fieldLink RX7 7 "SightLegendModel" "s" "[I") (List.mem_cons_of_mem _ (GL_5 _ (by decide +kernel)))
  have w2 : ∀ w ∈ u_ws RX7 TX7 29, w ∈ WW (.code yX7_setKind cX7_setKind 5 (some .int)) := fun w h => List.mem_cons_of_mem _ (inlX7 w h)
  have w3 : tyc 162 (0, 311) := ty_of (d := 1) (t1 := (0, 311)) (by decide +kernel) rfl tb
  unfold f_X7_setKind at h
  refine a_sub (ls1 := [(0, Value.ref (ad 161)), (1, vI p1), (2, vI p2), (3, vI p3)]) [0, 1, 2, 3] rfl ?_
  refine a_iload_n (pc := 0) a 1 dX7_setKind_0 rfl rfl ?_
  refine a_csi (pc := 1) a (As := [vI p1]) (rest := []) (fun sz => c_X7_isKind hinj hl0  h sz) (va_cwS 1 hts (gl_S (GL_7 _ (by decide +kernel)) (GL_7 _ (by decide +kernel)) (GL_1 _ (by decide +kernel)) (GL_8 _ (by decide +kernel))) rfl rfl rfl (by decide +kernel) ⟨Nat.le_of_ble_eq_true rfl, Nat.le_of_ble_eq_true rfl⟩) rfl rfl (Nat.le_of_ble_eq_true rfl) ⟨Nat.le_of_ble_eq_true rfl, Nat.le_of_ble_eq_true rfl⟩ dX7_setKind_1 ?_
  rintro x1 s9 ⟨hs9, h9⟩
  subst s9
  replace h := h9
  clear h9
  refine a_if_ne (pc := 4) a h.1 dX7_setKind_4 (tgt := 13) (by decide) (fun hq => ?_) (fun hq => ?_)
  · replace h := h.2.1 hq
    clear hq
    refine a_iload_n (pc := 13) a 2 dX7_setKind_13 rfl rfl ?_
    refine a_iconst (pc := 14) a dX7_setKind_14 ?_
    refine a_bipush (pc := 15) a dX7_setKind_15 (by decide) ?_
    refine a_csi (pc := 17) a (As := [vI p2, vI 0, vI 99]) (rest := []) (fun sz => c_X7_in hinj hl0  h sz) (va_cwS 3 hts (gl_S (GL_8 _ (by decide +kernel)) (GL_8 _ (by decide +kernel)) (GL_1 _ (by decide +kernel)) (GL_8 _ (by decide +kernel))) rfl rfl rfl (by decide +kernel) ⟨Nat.le_of_ble_eq_true rfl, Nat.le_of_ble_eq_true rfl⟩) rfl rfl (Nat.le_of_ble_eq_true rfl) ⟨Nat.le_of_ble_eq_true rfl, Nat.le_of_ble_eq_true rfl⟩ dX7_setKind_17 ?_
    rintro x2 s9 ⟨hs9, h9⟩
    subst s9
    replace h := h9
    clear h9
    refine a_if_eq (pc := 20) a h.1 dX7_setKind_20 (tgt := 32) (by decide) (fun hq => ?_) (fun hq => ?_)
    · replace h := h.2.1 hq
      clear hq
      refine a_aload_n (pc := 32) a 0 dX7_setKind_32 rfl rfl ?_
      refine a_iconst (pc := 33) a dX7_setKind_33 ?_
      refine a_cvi (pc := 34) a (As := [vI 2]) (rest := []) tb vc7 (fun sz => c_X7_fails hinj hl0  h sz) (cwV 1 hts (gl_V (GL_8 _ (by decide +kernel)) (GL_8 _ (by decide +kernel)) (GL_8 _ (by decide +kernel)) (GL_1 _ (by decide +kernel)) (GL_8 _ (by decide +kernel))) rfl rfl rfl (by decide +kernel) ⟨Nat.le_of_ble_eq_true rfl, Nat.le_of_ble_eq_true rfl⟩) rfl rfl (Nat.le_of_ble_eq_true rfl) ⟨Nat.le_of_ble_eq_true rfl, Nat.le_of_ble_eq_true rfl⟩ dX7_setKind_34 ?_
      clear h
      intro x3 s4 h
      exact e_i (pc := 37) a hr dX7_setKind_37 h
    · replace h := h.2.2 hq
      clear hq
      refine a_iload_n (pc := 23) a 3 dX7_setKind_23 rfl rfl ?_
      refine a_iconst (pc := 24) a dX7_setKind_24 ?_
      refine a_iconst (pc := 25) a dX7_setKind_25 ?_
      refine a_csi (pc := 26) a (As := [vI p3, vI (-1), vI 4]) (rest := []) (fun sz => c_X7_in hinj hl0  h sz) (va_cwS 3 hts (gl_S (GL_8 _ (by decide +kernel)) (GL_8 _ (by decide +kernel)) (GL_1 _ (by decide +kernel)) (GL_8 _ (by decide +kernel))) rfl rfl rfl (by decide +kernel) ⟨Nat.le_of_ble_eq_true rfl, Nat.le_of_ble_eq_true rfl⟩) rfl rfl (Nat.le_of_ble_eq_true rfl) ⟨Nat.le_of_ble_eq_true rfl, Nat.le_of_ble_eq_true rfl⟩ dX7_setKind_26 ?_
      rintro x5 s9 ⟨hs9, h9⟩
      subst s9
      replace h := h9
      clear h9
      refine a_if_ne (pc := 29) a h.1 dX7_setKind_29 (tgt := 38) (by decide) (fun hq => ?_) (fun hq => ?_)
      · replace h := h.2.1 hq
        clear hq
        refine a_aload_n (pc := 38) a 0 dX7_setKind_38 rfl rfl ?_
        refine a_cvv (pc := 39) a (As := []) (rest := []) tb vc7 (fun sz => c_X7_hold hinj hl0  h sz) (cwV 0 hts (gl_V (GL_8 _ (by decide +kernel)) (GL_8 _ (by decide +kernel)) (GL_8 _ (by decide +kernel)) (GL_1 _ (by decide +kernel)) (GL_8 _ (by decide +kernel))) rfl rfl rfl (by decide +kernel) ⟨Nat.le_of_ble_eq_true rfl, Nat.le_of_ble_eq_true rfl⟩) rfl rfl (Nat.le_of_ble_eq_true rfl) ⟨Nat.le_of_ble_eq_true rfl, Nat.le_of_ble_eq_true rfl⟩ dX7_setKind_39 ?_
        clear h
        intro s6 h
        refine a_aload_n (pc := 42) a 0 dX7_setKind_42 rfl rfl ?_
        refine a_iload_n (pc := 43) a 1 dX7_setKind_43 rfl rfl ?_
        refine a_cvi (pc := 44) a (As := [vI p1]) (rest := []) tb vc7 (fun sz => c_X7_rankOf hinj hl0  h sz) (cwV 1 hts (gl_V (GL_13 _ (by decide +kernel)) (GL_13 _ (by decide +kernel)) (GL_13 _ (by decide +kernel)) (GL_1 _ (by decide +kernel)) (GL_14 _ (by decide +kernel))) rfl rfl rfl (by decide +kernel) ⟨Nat.le_of_ble_eq_true rfl, Nat.le_of_ble_eq_true rfl⟩) rfl rfl (Nat.le_of_ble_eq_true rfl) ⟨Nat.le_of_ble_eq_true rfl, Nat.le_of_ble_eq_true rfl⟩ dX7_setKind_44 ?_
        rintro x7 s9 ⟨hs9, h9⟩
        subst s9
        replace h := h9
        clear h9
        refine a_istore (pc := 47) a (ls1 := [(4, vI x7), (0, Value.ref (ad 161)), (1, vI p1), (2, vI p2), (3, vI p3)]) dX7_setKind_47 (by decide) rfl ?_
        refine a_aload_n (pc := 49) a 1 dX7_setKind_49 rfl rfl ?_
        refine a_getR (pc := 50) a 0 0 rfl tb vc7 w2 w1 (by decide) (by decide) 1 (q := 162) rfl rfl dX7_setKind_50 ?_
        refine a_bipush (pc := 53) a dX7_setKind_53 (by decide) ?_
        refine a_bipush (pc := 55) a dX7_setKind_55 (by decide) ?_
        refine a_iload_n (pc := 57) a 2 dX7_setKind_57 rfl rfl ?_
        refine a_imul (pc := 58) a dX7_setKind_58 ?_
        refine a_iadd (pc := 59) a dX7_setKind_59 ?_
        refine a_iload_n (pc := 60) a 3 dX7_setKind_60 rfl rfl ?_
        refine a_iast (pc := 61) a w3 (by decide) h.1 dX7_setKind_61 ?_
        replace h := h.2
        refine a_nmS (fun s8 hx => ?_)
        replace h := h s8 hx
        clear hx
        refine a_aload_n (pc := 62) a 1 dX7_setKind_62 rfl rfl ?_
        refine a_getR (pc := 63) a 0 0 rfl tb vc7 w2 w1 (by decide) (by decide) 1 (q := 162) rfl rfl dX7_setKind_63 ?_
        refine a_bipush (pc := 66) a dX7_setKind_66 (by decide) ?_
        refine a_bipush (pc := 68) a dX7_setKind_68 (by decide) ?_
        refine a_iload_n (pc := 70) a 2 dX7_setKind_70 rfl rfl ?_
        refine a_imul (pc := 71) a dX7_setKind_71 ?_
        refine a_iadd (pc := 72) a dX7_setKind_72 ?_
        refine a_iconst (pc := 73) a dX7_setKind_73 ?_
        refine a_iadd (pc := 74) a dX7_setKind_74 ?_
        refine a_iload_n (pc := 75) a 4 dX7_setKind_75 rfl rfl ?_
        refine a_iast (pc := 76) a w3 (by decide) h.1 dX7_setKind_76 ?_
        replace h := h.2
        refine a_nmS (fun s9 hx => ?_)
        replace h := h s9 hx
        clear hx
        refine a_aload_n (pc := 77) a 1 dX7_setKind_77 rfl rfl ?_
        refine a_iload (pc := 78) a 0 dX7_setKind_78 rfl ?_
        refine a_cvi (pc := 80) a (As := [vI x7]) (rest := []) tb vc7 (fun sz => c_X7_ends hinj hl0  h sz) (cwV 1 hts (gl_V (GL_8 _ (by decide +kernel)) (GL_8 _ (by decide +kernel)) (GL_8 _ (by decide +kernel)) (GL_1 _ (by decide +kernel)) (GL_8 _ (by decide +kernel))) rfl rfl rfl (by decide +kernel) ⟨Nat.le_of_ble_eq_true rfl, Nat.le_of_ble_eq_true rfl⟩) rfl rfl (Nat.le_of_ble_eq_true rfl) ⟨Nat.le_of_ble_eq_true rfl, Nat.le_of_ble_eq_true rfl⟩ dX7_setKind_80 ?_
        clear h
        intro x10 s11 h
        exact e_i (pc := 83) a hr dX7_setKind_83 h
      · replace h := h.2.2 hq
        clear hq
        refine a_aload_n (pc := 32) a 0 dX7_setKind_32 rfl rfl ?_
        refine a_iconst (pc := 33) a dX7_setKind_33 ?_
        refine a_cvi (pc := 34) a (As := [vI 2]) (rest := []) tb vc7 (fun sz => c_X7_fails hinj hl0  h sz) (cwV 1 hts (gl_V (GL_8 _ (by decide +kernel)) (GL_8 _ (by decide +kernel)) (GL_8 _ (by decide +kernel)) (GL_1 _ (by decide +kernel)) (GL_8 _ (by decide +kernel))) rfl rfl rfl (by decide +kernel) ⟨Nat.le_of_ble_eq_true rfl, Nat.le_of_ble_eq_true rfl⟩) rfl rfl (Nat.le_of_ble_eq_true rfl) ⟨Nat.le_of_ble_eq_true rfl, Nat.le_of_ble_eq_true rfl⟩ dX7_setKind_34 ?_
        clear h
        intro x12 s13 h
        exact e_i (pc := 37) a hr dX7_setKind_37 h
  · replace h := h.2.2 hq
    clear hq
    refine a_aload_n (pc := 7) a 0 dX7_setKind_7 rfl rfl ?_
    refine a_iconst (pc := 8) a dX7_setKind_8 ?_
    refine a_cvi (pc := 9) a (As := [vI 1]) (rest := []) tb vc7 (fun sz => c_X7_fails hinj hl0  h sz) (cwV 1 hts (gl_V (GL_8 _ (by decide +kernel)) (GL_8 _ (by decide +kernel)) (GL_8 _ (by decide +kernel)) (GL_1 _ (by decide +kernel)) (GL_8 _ (by decide +kernel))) rfl rfl rfl (by decide +kernel) ⟨Nat.le_of_ble_eq_true rfl, Nat.le_of_ble_eq_true rfl⟩) rfl rfl (Nat.le_of_ble_eq_true rfl) ⟨Nat.le_of_ble_eq_true rfl, Nat.le_of_ble_eq_true rfl⟩ dX7_setKind_9 ?_
    clear h
    intro x14 s15 h
    exact e_i (pc := 12) a hr dX7_setKind_12 h

set_option maxRecDepth 100000 in
set_option maxHeartbeats 4000000 in
theorem c_X7_setWay {l : Launch} {D : va_G} {X : XI} {ad : Nat → Nat} (hinj : adI ad) (hl0 : l.stackTraces = false) {p1 : Int} {p2 : Int}  {σ : St} {K : Int → St → Prop} (h : f_X7_setWay p1 p2 σ K) (sz : Nat) : Met l yX7_setWay (WW (.code yX7_setWay cX7_setWay 4 (some .int))) { frames := 2, cells := 0, slots := 0, locals := 43 } (va_Pc [Value.ref (ad 161), vI p1, vI p2] (WD D X ad σ sz)) (QI D X ad sz K) 0 0 (AA ad sz) := by
  refine a_start (cc := cX7_setWay) (maxL := 4) (ret := (some .int)) (own := RX7) [Value.ref (ad 161), vI p1, vI p2] (by decide) rfl rfl (Nat.le_of_ble_eq_true rfl) hinj hl0 ?_
  intro p e s m below meth c a hr hsz
  subst hsz
  have hts := a.1.2.2.2.2
  have tb : tyc 161 (11, 0) := ⟨by decide, rfl⟩
  have w1 := hts (Cond.fieldLink RX7 7 "SightLegendModel" "s" "[I") (List.mem_cons_of_mem _ (GL_5 _ (by decide +kernel)))
  have w2 : ∀ w ∈ u_ws RX7 TX7 29, w ∈ WW (.code yX7_setWay cX7_setWay 4 (some .int)) := fun w h => List.mem_cons_of_mem _ (inlX7 w h)
  have w3 : tyc 162 (0, 311) := ty_of (d := 1) (t1 := (0, 311)) (by decide +kernel) rfl tb
  unfold f_X7_setWay at h
  refine a_sub (ls1 := [(0, Value.ref (ad 161)), (1, vI p1), (2, vI p2)]) [0, 1, 2] rfl ?_
  refine a_iload_n (pc := 0) a 1 dX7_setWay_0 rfl rfl ?_
  refine a_iconst (pc := 1) a dX7_setWay_1 ?_
  refine a_iconst (pc := 2) a dX7_setWay_2 ?_
  refine a_csi (pc := 3) a (As := [vI p1, vI 0, vI 4]) (rest := []) (fun sz => c_X7_in hinj hl0  h sz) (va_cwS 3 hts (gl_S (GL_8 _ (by decide +kernel)) (GL_8 _ (by decide +kernel)) (GL_1 _ (by decide +kernel)) (GL_8 _ (by decide +kernel))) rfl rfl rfl (by decide +kernel) ⟨Nat.le_of_ble_eq_true rfl, Nat.le_of_ble_eq_true rfl⟩) rfl rfl (Nat.le_of_ble_eq_true rfl) ⟨Nat.le_of_ble_eq_true rfl, Nat.le_of_ble_eq_true rfl⟩ dX7_setWay_3 ?_
  rintro x1 s9 ⟨hs9, h9⟩
  subst s9
  replace h := h9
  clear h9
  refine a_if_ne (pc := 6) a h.1 dX7_setWay_6 (tgt := 15) (by decide) (fun hq => ?_) (fun hq => ?_)
  · replace h := h.2.1 hq
    clear hq
    refine a_iload_n (pc := 15) a 2 dX7_setWay_15 rfl rfl ?_
    refine a_iconst (pc := 16) a dX7_setWay_16 ?_
    refine a_iconst (pc := 17) a dX7_setWay_17 ?_
    refine a_csi (pc := 18) a (As := [vI p2, vI 0, vI 1]) (rest := []) (fun sz => c_X7_in hinj hl0  h sz) (va_cwS 3 hts (gl_S (GL_8 _ (by decide +kernel)) (GL_8 _ (by decide +kernel)) (GL_1 _ (by decide +kernel)) (GL_8 _ (by decide +kernel))) rfl rfl rfl (by decide +kernel) ⟨Nat.le_of_ble_eq_true rfl, Nat.le_of_ble_eq_true rfl⟩) rfl rfl (Nat.le_of_ble_eq_true rfl) ⟨Nat.le_of_ble_eq_true rfl, Nat.le_of_ble_eq_true rfl⟩ dX7_setWay_18 ?_
    rintro x2 s9 ⟨hs9, h9⟩
    subst s9
    replace h := h9
    clear h9
    refine a_if_ne (pc := 21) a h.1 dX7_setWay_21 (tgt := 30) (by decide) (fun hq => ?_) (fun hq => ?_)
    · replace h := h.2.1 hq
      clear hq
      refine a_aload_n (pc := 30) a 0 dX7_setWay_30 rfl rfl ?_
      refine a_cvv (pc := 31) a (As := []) (rest := []) tb vc7 (fun sz => c_X7_hold hinj hl0  h sz) (cwV 0 hts (gl_V (GL_8 _ (by decide +kernel)) (GL_8 _ (by decide +kernel)) (GL_8 _ (by decide +kernel)) (GL_1 _ (by decide +kernel)) (GL_8 _ (by decide +kernel))) rfl rfl rfl (by decide +kernel) ⟨Nat.le_of_ble_eq_true rfl, Nat.le_of_ble_eq_true rfl⟩) rfl rfl (Nat.le_of_ble_eq_true rfl) ⟨Nat.le_of_ble_eq_true rfl, Nat.le_of_ble_eq_true rfl⟩ dX7_setWay_31 ?_
      clear h
      intro s3 h
      refine a_aload_n (pc := 34) a 0 dX7_setWay_34 rfl rfl ?_
      refine a_getR (pc := 35) a 0 0 rfl tb vc7 w2 w1 (by decide) (by decide) 1 (q := 162) rfl rfl dX7_setWay_35 ?_
      refine a_bipush (pc := 38) a dX7_setWay_38 (by decide) ?_
      refine a_iload_n (pc := 40) a 1 dX7_setWay_40 rfl rfl ?_
      refine a_iadd (pc := 41) a dX7_setWay_41 ?_
      refine a_iald (pc := 42) a w3 (by decide) h.1 dX7_setWay_42 ?_
      replace h := h.2
      refine a_nm (fun x4 hx => ?_)
      replace h := h x4 hx
      clear hx
      refine a_istore_n (pc := 43) a (ls1 := [(3, vI x4), (0, Value.ref (ad 161)), (1, vI p1), (2, vI p2)]) dX7_setWay_43 rfl (by decide) rfl ?_
      refine a_aload_n (pc := 44) a 1 dX7_setWay_44 rfl rfl ?_
      refine a_getR (pc := 45) a 0 0 rfl tb vc7 w2 w1 (by decide) (by decide) 1 (q := 162) rfl rfl dX7_setWay_45 ?_
      refine a_bipush (pc := 48) a dX7_setWay_48 (by decide) ?_
      refine a_iload_n (pc := 50) a 2 dX7_setWay_50 rfl rfl ?_
      refine a_iadd (pc := 51) a dX7_setWay_51 ?_
      refine a_iload_n (pc := 52) a 3 dX7_setWay_52 rfl rfl ?_
      refine a_iast (pc := 53) a w3 (by decide) h.1 dX7_setWay_53 ?_
      replace h := h.2
      refine a_nmS (fun s5 hx => ?_)
      replace h := h s5 hx
      clear hx
      refine a_aload_n (pc := 54) a 1 dX7_setWay_54 rfl rfl ?_
      refine a_iload_n (pc := 55) a 0 dX7_setWay_55 rfl rfl ?_
      refine a_cvi (pc := 56) a (As := [vI x4]) (rest := []) tb vc7 (fun sz => c_X7_ends hinj hl0  h sz) (cwV 1 hts (gl_V (GL_8 _ (by decide +kernel)) (GL_8 _ (by decide +kernel)) (GL_8 _ (by decide +kernel)) (GL_1 _ (by decide +kernel)) (GL_8 _ (by decide +kernel))) rfl rfl rfl (by decide +kernel) ⟨Nat.le_of_ble_eq_true rfl, Nat.le_of_ble_eq_true rfl⟩) rfl rfl (Nat.le_of_ble_eq_true rfl) ⟨Nat.le_of_ble_eq_true rfl, Nat.le_of_ble_eq_true rfl⟩ dX7_setWay_56 ?_
      clear h
      intro x6 s7 h
      exact e_i (pc := 59) a hr dX7_setWay_59 h
    · replace h := h.2.2 hq
      clear hq
      refine a_aload_n (pc := 24) a 0 dX7_setWay_24 rfl rfl ?_
      refine a_iconst (pc := 25) a dX7_setWay_25 ?_
      refine a_cvi (pc := 26) a (As := [vI 2]) (rest := []) tb vc7 (fun sz => c_X7_fails hinj hl0  h sz) (cwV 1 hts (gl_V (GL_8 _ (by decide +kernel)) (GL_8 _ (by decide +kernel)) (GL_8 _ (by decide +kernel)) (GL_1 _ (by decide +kernel)) (GL_8 _ (by decide +kernel))) rfl rfl rfl (by decide +kernel) ⟨Nat.le_of_ble_eq_true rfl, Nat.le_of_ble_eq_true rfl⟩) rfl rfl (Nat.le_of_ble_eq_true rfl) ⟨Nat.le_of_ble_eq_true rfl, Nat.le_of_ble_eq_true rfl⟩ dX7_setWay_26 ?_
      clear h
      intro x8 s9 h
      exact e_i (pc := 29) a hr dX7_setWay_29 h
  · replace h := h.2.2 hq
    clear hq
    refine a_aload_n (pc := 9) a 0 dX7_setWay_9 rfl rfl ?_
    refine a_iconst (pc := 10) a dX7_setWay_10 ?_
    refine a_cvi (pc := 11) a (As := [vI 1]) (rest := []) tb vc7 (fun sz => c_X7_fails hinj hl0  h sz) (cwV 1 hts (gl_V (GL_8 _ (by decide +kernel)) (GL_8 _ (by decide +kernel)) (GL_8 _ (by decide +kernel)) (GL_1 _ (by decide +kernel)) (GL_8 _ (by decide +kernel))) rfl rfl rfl (by decide +kernel) ⟨Nat.le_of_ble_eq_true rfl, Nat.le_of_ble_eq_true rfl⟩) rfl rfl (Nat.le_of_ble_eq_true rfl) ⟨Nat.le_of_ble_eq_true rfl, Nat.le_of_ble_eq_true rfl⟩ dX7_setWay_11 ?_
    clear h
    intro x10 s11 h
    exact e_i (pc := 14) a hr dX7_setWay_14 h

set_option maxRecDepth 100000 in
set_option maxHeartbeats 4000000 in
theorem c_X7_limit {l : Launch} {D : va_G} {X : XI} {ad : Nat → Nat} (hinj : adI ad) (hl0 : l.stackTraces = false) {p1 : Int} {p2 : Int}  {σ : St} {K : Int → St → Prop} (h : f_X7_limit p1 p2 σ K) (sz : Nat) : Met l yX7_limit (WW (.code yX7_limit cX7_limit 7 (some .int))) { frames := 2, cells := 0, slots := 0, locals := 43 } (va_Pc [Value.ref (ad 161), vI p1, vI p2] (WD D X ad σ sz)) (QI D X ad sz K) 0 0 (AA ad sz) := by
  refine a_start (cc := cX7_limit) (maxL := 7) (ret := (some .int)) (own := RX7) [Value.ref (ad 161), vI p1, vI p2] (by decide) rfl rfl (Nat.le_of_ble_eq_true rfl) hinj hl0 ?_
  intro p e s m below meth c a hr hsz
  subst hsz
  have hts := a.1.2.2.2.2
  have tb : tyc 161 (11, 0) := ⟨by decide, rfl⟩
  have w1 := hts (Cond.fieldLink RX7 7 "SightLegendModel" "s" "[I") (List.mem_cons_of_mem _ (GL_5 _ (by decide +kernel)))
  have w2 : ∀ w ∈ u_ws RX7 TX7 29, w ∈ WW (.code yX7_limit cX7_limit 7 (some .int)) := fun w h => List.mem_cons_of_mem _ (inlX7 w h)
  have w3 : tyc 162 (0, 311) := ty_of (d := 1) (t1 := (0, 311)) (by decide +kernel) rfl tb
  unfold f_X7_limit at h
  refine a_sub (ls1 := [(0, Value.ref (ad 161)), (1, vI p1), (2, vI p2)]) [0, 1, 2] rfl ?_
  refine a_iload_n (pc := 0) a 1 dX7_limit_0 rfl rfl ?_
  refine a_csi (pc := 1) a (As := [vI p1]) (rest := []) (fun sz => c_X7_isKind hinj hl0  h sz) (va_cwS 1 hts (gl_S (GL_7 _ (by decide +kernel)) (GL_7 _ (by decide +kernel)) (GL_1 _ (by decide +kernel)) (GL_8 _ (by decide +kernel))) rfl rfl rfl (by decide +kernel) ⟨Nat.le_of_ble_eq_true rfl, Nat.le_of_ble_eq_true rfl⟩) rfl rfl (Nat.le_of_ble_eq_true rfl) ⟨Nat.le_of_ble_eq_true rfl, Nat.le_of_ble_eq_true rfl⟩ dX7_limit_1 ?_
  rintro x1 s9 ⟨hs9, h9⟩
  subst s9
  replace h := h9
  clear h9
  refine a_if_ne (pc := 4) a h.1 dX7_limit_4 (tgt := 13) (by decide) (fun hq => ?_) (fun hq => ?_)
  · replace h := h.2.1 hq
    clear hq
    refine a_iload_n (pc := 13) a 2 dX7_limit_13 rfl rfl ?_
    refine a_iconst (pc := 14) a dX7_limit_14 ?_
    refine a_sipush (pc := 15) a dX7_limit_15 (by decide) ?_
    refine a_csi (pc := 18) a (As := [vI p2, vI 1, vI 9999]) (rest := []) (fun sz => c_X7_in hinj hl0  h sz) (va_cwS 3 hts (gl_S (GL_8 _ (by decide +kernel)) (GL_8 _ (by decide +kernel)) (GL_1 _ (by decide +kernel)) (GL_8 _ (by decide +kernel))) rfl rfl rfl (by decide +kernel) ⟨Nat.le_of_ble_eq_true rfl, Nat.le_of_ble_eq_true rfl⟩) rfl rfl (Nat.le_of_ble_eq_true rfl) ⟨Nat.le_of_ble_eq_true rfl, Nat.le_of_ble_eq_true rfl⟩ dX7_limit_18 ?_
    rintro x2 s9 ⟨hs9, h9⟩
    subst s9
    replace h := h9
    clear h9
    refine a_if_ne (pc := 21) a h.1 dX7_limit_21 (tgt := 30) (by decide) (fun hq => ?_) (fun hq => ?_)
    · replace h := h.2.1 hq
      clear hq
      refine a_bipush (pc := 30) a dX7_limit_30 (by decide) ?_
      refine a_bipush (pc := 32) a dX7_limit_32 (by decide) ?_
      refine a_iload_n (pc := 34) a 1 dX7_limit_34 rfl rfl ?_
      refine a_imul (pc := 35) a dX7_limit_35 ?_
      refine a_iadd (pc := 36) a dX7_limit_36 ?_
      refine a_iconst (pc := 37) a dX7_limit_37 ?_
      refine a_iadd (pc := 38) a dX7_limit_38 ?_
      refine a_nm (fun x3 hx => ?_)
      replace h := h x3 hx
      clear hx
      refine a_istore_n (pc := 39) a (ls1 := [(3, vI x3), (0, Value.ref (ad 161)), (1, vI p1), (2, vI p2)]) dX7_limit_39 rfl (by decide) rfl ?_
      refine a_iconst (pc := 40) a dX7_limit_40 ?_
      refine a_istore (pc := 41) a (ls1 := [(4, vI 0), (3, vI x3), (0, Value.ref (ad 161)), (1, vI p1), (2, vI p2)]) dX7_limit_41 (by decide) rfl ?_
      refine a_sub (ls1 := [(0, Value.ref (ad 161)), (2, vI p2), (3, vI x3), (4, vI 0)]) [2, 4, 1, 0] rfl ?_
      refine g_wl1 (fun x4 => [(0, Value.ref (ad 161)), (2, vI p2), (3, vI x3), (4, vI x4)]) h ?_
      clear h
      intro x4 ag43 hag43 h
      refine a_iload (pc := 43) a 3 dX7_limit_43 rfl ?_
      refine a_aload_n (pc := 45) a 0 dX7_limit_45 rfl rfl ?_
      refine a_getR (pc := 46) a 0 0 rfl tb vc7 w2 w1 (by decide) (by decide) 1 (q := 162) rfl rfl dX7_limit_46 ?_
      refine a_iload_n (pc := 49) a 2 dX7_limit_49 rfl rfl ?_
      refine a_iald (pc := 50) a w3 (by decide) h.1 dX7_limit_50 ?_
      replace h := h.2
      refine g_wj0 75 0 0 [(0, Value.ref (ad 161)), (2, vI p2), (3, vI x3), (4, vI x4)] [] h ?_ ?_
      · clear h
        intro  h
        refine a_iload (pc := 75) a 3 dX7_limit_75 rfl ?_
        refine a_aload_n (pc := 77) a 0 dX7_limit_77 rfl rfl ?_
        refine a_getR (pc := 78) a 0 0 rfl tb vc7 w2 w1 (by decide) (by decide) 1 (q := 162) rfl rfl dX7_limit_78 ?_
        refine a_iload_n (pc := 81) a 2 dX7_limit_81 rfl rfl ?_
        refine a_iald (pc := 82) a w3 (by decide) h.1 dX7_limit_82 ?_
        replace h := h.2
        refine g_wj1 106 0 0 (fun x8 => [(0, Value.ref (ad 161)), (2, vI p2), (3, vI x3), (4, vI x4)]) (fun x8 => [vI x8]) h ?_ ?_
        · clear h
          intro x8 h
          refine a_istore (pc := 106) a (ls1 := [(5, vI x8), (0, Value.ref (ad 161)), (2, vI p2), (3, vI x3), (4, vI x4)]) dX7_limit_106 (by decide) rfl ?_
          refine a_iload (pc := 108) a 0 dX7_limit_108 rfl ?_
          refine g_wj0 129 0 0 [(0, Value.ref (ad 161)), (2, vI p2), (3, vI x3), (4, vI x4), (5, vI x8)] [] h ?_ ?_
          · clear h
            intro  h
            refine a_aload_n (pc := 129) a 0 dX7_limit_129 rfl rfl ?_
            refine a_cvv (pc := 130) a (As := []) (rest := []) tb vc7 (fun sz => c_X7_hold hinj hl0  h sz) (cwV 0 hts (gl_V (GL_8 _ (by decide +kernel)) (GL_8 _ (by decide +kernel)) (GL_8 _ (by decide +kernel)) (GL_1 _ (by decide +kernel)) (GL_8 _ (by decide +kernel))) rfl rfl rfl (by decide +kernel) ⟨Nat.le_of_ble_eq_true rfl, Nat.le_of_ble_eq_true rfl⟩) rfl rfl (Nat.le_of_ble_eq_true rfl) ⟨Nat.le_of_ble_eq_true rfl, Nat.le_of_ble_eq_true rfl⟩ dX7_limit_130 ?_
            clear h
            intro s12 h
            refine a_iload (pc := 133) a 4 dX7_limit_133 rfl ?_
            refine g_wj0s 259 0 0 [(0, Value.ref (ad 161)), (3, vI x3)] [] h ?_ ?_
            · clear h
              intro s24 h
              refine a_aload_n (pc := 259) a 0 dX7_limit_259 rfl rfl ?_
              refine a_aload_n (pc := 260) a 0 dX7_limit_260 rfl rfl ?_
              refine a_getR (pc := 261) a 0 0 rfl tb vc7 w2 w1 (by decide) (by decide) 1 (q := 162) rfl rfl dX7_limit_261 ?_
              refine a_iload_n (pc := 264) a 1 dX7_limit_264 rfl rfl ?_
              refine a_iald (pc := 265) a w3 (by decide) h.1 dX7_limit_265 ?_
              replace h := h.2
              refine a_cvi (pc := 266) a (As := [vI (s24 162 x3)]) (rest := []) tb vc7 (fun sz => c_X7_ends hinj hl0  h sz) (cwV 1 hts (gl_V (GL_8 _ (by decide +kernel)) (GL_8 _ (by decide +kernel)) (GL_8 _ (by decide +kernel)) (GL_1 _ (by decide +kernel)) (GL_8 _ (by decide +kernel))) rfl rfl rfl (by decide +kernel) ⟨Nat.le_of_ble_eq_true rfl, Nat.le_of_ble_eq_true rfl⟩) rfl rfl (Nat.le_of_ble_eq_true rfl) ⟨Nat.le_of_ble_eq_true rfl, Nat.le_of_ble_eq_true rfl⟩ dX7_limit_266 ?_
              clear h
              intro x25 s26 h
              exact e_i (pc := 269) a hr dX7_limit_269 h
            · clear h
              intro jj259 hjj259 h
              refine a_if_eq (pc := 135) a h.1 dX7_limit_135 (tgt := 196) (by decide) (fun hq => ?_) (fun hq => ?_)
              · replace h := h.2.1 hq
                clear hq
                refine a_aload_n (pc := 196) a 0 dX7_limit_196 rfl rfl ?_
                refine a_getR (pc := 197) a 0 0 rfl tb vc7 w2 w1 (by decide) (by decide) 1 (q := 162) rfl rfl dX7_limit_197 ?_
                refine a_iload_n (pc := 200) a 2 dX7_limit_200 rfl rfl ?_
                refine a_iald (pc := 201) a w3 (by decide) h.1 dX7_limit_201 ?_
                replace h := h.2
                refine a_nm (fun x14 hx => ?_)
                replace h := h x14 hx
                clear hx
                refine a_istore (pc := 202) a (ls1 := [(6, vI x14), (0, Value.ref (ad 161)), (2, vI p2), (3, vI x3), (4, vI x4), (5, vI x8)]) dX7_limit_202 (by decide) rfl ?_
                refine a_sub (ls1 := [(0, Value.ref (ad 161)), (2, vI p2), (3, vI x3), (4, vI x4), (6, vI x14)]) [1, 2, 3, 4, 0] rfl ?_
                refine g_wl1s (fun x15 => [(0, Value.ref (ad 161)), (2, vI p2), (3, vI x3), (4, vI x4), (6, vI x15)]) h ?_
                clear h
                intro x15 s16 ag204 hag204 h
                refine a_iload (pc := 204) a 4 dX7_limit_204 rfl ?_
                refine a_iload (pc := 206) a 3 dX7_limit_206 rfl ?_
                refine a_icmp_le (pc := 208) a h.1 h.2.1 dX7_limit_208 (tgt := 237) (by decide) (fun hq => ?_) (fun hq => ?_)
                · replace h := h.2.2.1 hq
                  clear hq
                  refine a_aload_n (pc := 237) a 0 dX7_limit_237 rfl rfl ?_
                  refine a_getR (pc := 238) a 0 0 rfl tb vc7 w2 w1 (by decide) (by decide) 1 (q := 162) rfl rfl dX7_limit_238 ?_
                  refine a_iload_n (pc := 241) a 2 dX7_limit_241 rfl rfl ?_
                  refine a_iconst (pc := 242) a dX7_limit_242 ?_
                  refine a_iadd (pc := 243) a dX7_limit_243 ?_
                  refine a_iload (pc := 244) a 3 dX7_limit_244 rfl ?_
                  refine a_iadd (pc := 246) a dX7_limit_246 ?_
                  refine a_iload_n (pc := 247) a 1 dX7_limit_247 rfl rfl ?_
                  refine a_iast (pc := 248) a w3 (by decide) h.1 dX7_limit_248 ?_
                  replace h := h.2
                  refine a_nmS (fun s17 hx => ?_)
                  replace h := h s17 hx
                  clear hx
                  refine a_aload_n (pc := 249) a 0 dX7_limit_249 rfl rfl ?_
                  refine a_getR (pc := 250) a 0 0 rfl tb vc7 w2 w1 (by decide) (by decide) 1 (q := 162) rfl rfl dX7_limit_250 ?_
                  refine a_iload_n (pc := 253) a 2 dX7_limit_253 rfl rfl ?_
                  refine a_dup2 (pc := 254) a rfl rfl dX7_limit_254 ?_
                  refine a_iald (pc := 255) a w3 (by decide) h.1 dX7_limit_255 ?_
                  replace h := h.2
                  refine a_iconst (pc := 256) a dX7_limit_256 ?_
                  refine a_iadd (pc := 257) a dX7_limit_257 ?_
                  refine a_iast (pc := 258) a w3 (by decide) h.1 dX7_limit_258 ?_
                  replace h := h.2
                  refine a_nmS (fun s18 hx => ?_)
                  replace h := h s18 hx
                  clear hx
                  refine a_sub (ls1 := [(0, Value.ref (ad 161)), (3, vI x3)]) [0, 2] rfl ?_
                  exact hjj259 s18 h
                · replace h := h.2.2.2 hq
                  clear hq
                  refine a_aload_n (pc := 211) a 0 dX7_limit_211 rfl rfl ?_
                  refine a_getR (pc := 212) a 0 0 rfl tb vc7 w2 w1 (by decide) (by decide) 1 (q := 162) rfl rfl dX7_limit_212 ?_
                  refine a_iload_n (pc := 215) a 2 dX7_limit_215 rfl rfl ?_
                  refine a_iconst (pc := 216) a dX7_limit_216 ?_
                  refine a_iadd (pc := 217) a dX7_limit_217 ?_
                  refine a_iload (pc := 218) a 4 dX7_limit_218 rfl ?_
                  refine a_iadd (pc := 220) a dX7_limit_220 ?_
                  refine a_aload_n (pc := 221) a 0 dX7_limit_221 rfl rfl ?_
                  refine a_getR (pc := 222) a 0 0 rfl tb vc7 w2 w1 (by decide) (by decide) 1 (q := 162) rfl rfl dX7_limit_222 ?_
                  refine a_iload_n (pc := 225) a 2 dX7_limit_225 rfl rfl ?_
                  refine a_iload (pc := 226) a 4 dX7_limit_226 rfl ?_
                  refine a_iadd (pc := 228) a dX7_limit_228 ?_
                  refine a_iald (pc := 229) a w3 (by decide) h.1 dX7_limit_229 ?_
                  replace h := h.2
                  refine a_iast (pc := 230) a w3 (by decide) h.1 dX7_limit_230 ?_
                  replace h := h.2
                  refine a_nmS (fun s19 hx => ?_)
                  replace h := h s19 hx
                  clear hx
                  refine a_iinc (pc := 231) a (ls1 := [(6, vI (x15 + (-1))), (0, Value.ref (ad 161)), (2, vI p2), (3, vI x3), (4, vI x4)]) 4 dX7_limit_231 rfl (by decide) rfl ?_
                  refine a_goto (pc := 234) a dX7_limit_234 (tgt := 204) (by decide) ?_
                  refine a_sub (ls1 := [(0, Value.ref (ad 161)), (2, vI p2), (3, vI x3), (4, vI x4), (6, vI (x15 + (-1)))]) [1, 2, 3, 4, 0] rfl ?_
                  exact hag204 (x15 + (-1)) s19 h
              · replace h := h.2.2 hq
                clear hq
                refine a_iload (pc := 138) a 3 dX7_limit_138 rfl ?_
                refine a_istore (pc := 140) a (ls1 := [(6, vI x4), (0, Value.ref (ad 161)), (2, vI p2), (3, vI x3), (4, vI x4), (5, vI x8)]) dX7_limit_140 (by decide) rfl ?_
                refine a_sub (ls1 := [(0, Value.ref (ad 161)), (3, vI x3), (6, vI x4)]) [1, 3, 0] rfl ?_
                refine g_wl1s (fun x20 => [(0, Value.ref (ad 161)), (3, vI x3), (6, vI x20)]) h ?_
                clear h
                intro x20 s21 ag142 hag142 h
                refine a_iload (pc := 142) a 2 dX7_limit_142 rfl ?_
                refine a_iconst (pc := 144) a dX7_limit_144 ?_
                refine a_iadd (pc := 145) a dX7_limit_145 ?_
                refine a_aload_n (pc := 146) a 0 dX7_limit_146 rfl rfl ?_
                refine a_getR (pc := 147) a 0 0 rfl tb vc7 w2 w1 (by decide) (by decide) 1 (q := 162) rfl rfl dX7_limit_147 ?_
                refine a_iload_n (pc := 150) a 1 dX7_limit_150 rfl rfl ?_
                refine a_iald (pc := 151) a w3 (by decide) h.1 dX7_limit_151 ?_
                replace h := h.2
                refine a_icmp_ge (pc := 152) a h.1 h.2.1 dX7_limit_152 (tgt := 183) (by decide) (fun hq => ?_) (fun hq => ?_)
                · replace h := h.2.2.1 hq
                  clear hq
                  refine a_aload_n (pc := 183) a 0 dX7_limit_183 rfl rfl ?_
                  refine a_getR (pc := 184) a 0 0 rfl tb vc7 w2 w1 (by decide) (by decide) 1 (q := 162) rfl rfl dX7_limit_184 ?_
                  refine a_iload_n (pc := 187) a 1 dX7_limit_187 rfl rfl ?_
                  refine a_dup2 (pc := 188) a rfl rfl dX7_limit_188 ?_
                  refine a_iald (pc := 189) a w3 (by decide) h.1 dX7_limit_189 ?_
                  replace h := h.2
                  refine a_iconst (pc := 190) a dX7_limit_190 ?_
                  refine a_isub (pc := 191) a dX7_limit_191 ?_
                  refine a_iast (pc := 192) a w3 (by decide) h.1 dX7_limit_192 ?_
                  replace h := h.2
                  refine a_nmS (fun s22 hx => ?_)
                  replace h := h s22 hx
                  clear hx
                  refine a_goto (pc := 193) a dX7_limit_193 (tgt := 259) (by decide) ?_
                  refine a_sub (ls1 := [(0, Value.ref (ad 161)), (3, vI x3)]) [0, 1] rfl ?_
                  exact hjj259 s22 h
                · replace h := h.2.2.2 hq
                  clear hq
                  refine a_aload_n (pc := 155) a 0 dX7_limit_155 rfl rfl ?_
                  refine a_getR (pc := 156) a 0 0 rfl tb vc7 w2 w1 (by decide) (by decide) 1 (q := 162) rfl rfl dX7_limit_156 ?_
                  refine a_iload_n (pc := 159) a 1 dX7_limit_159 rfl rfl ?_
                  refine a_iconst (pc := 160) a dX7_limit_160 ?_
                  refine a_iadd (pc := 161) a dX7_limit_161 ?_
                  refine a_iload (pc := 162) a 2 dX7_limit_162 rfl ?_
                  refine a_iadd (pc := 164) a dX7_limit_164 ?_
                  refine a_aload_n (pc := 165) a 0 dX7_limit_165 rfl rfl ?_
                  refine a_getR (pc := 166) a 0 0 rfl tb vc7 w2 w1 (by decide) (by decide) 1 (q := 162) rfl rfl dX7_limit_166 ?_
                  refine a_iload_n (pc := 169) a 1 dX7_limit_169 rfl rfl ?_
                  refine a_iconst (pc := 170) a dX7_limit_170 ?_
                  refine a_iadd (pc := 171) a dX7_limit_171 ?_
                  refine a_iload (pc := 172) a 2 dX7_limit_172 rfl ?_
                  refine a_iadd (pc := 174) a dX7_limit_174 ?_
                  refine a_iald (pc := 175) a w3 (by decide) h.1 dX7_limit_175 ?_
                  replace h := h.2
                  refine a_iast (pc := 176) a w3 (by decide) h.1 dX7_limit_176 ?_
                  replace h := h.2
                  refine a_nmS (fun s23 hx => ?_)
                  replace h := h s23 hx
                  clear hx
                  refine a_iinc (pc := 177) a (ls1 := [(6, vI (x20 + 1)), (0, Value.ref (ad 161)), (3, vI x3)]) 2 dX7_limit_177 rfl (by decide) rfl ?_
                  refine a_goto (pc := 180) a dX7_limit_180 (tgt := 142) (by decide) ?_
                  refine a_sub (ls1 := [(0, Value.ref (ad 161)), (3, vI x3), (6, vI (x20 + 1))]) [1, 2, 0] rfl ?_
                  exact hag142 (x20 + 1) s23 h
          · clear h
            intro jj129 hjj129 h
            refine a_if_ne (pc := 110) a h.1 dX7_limit_110 (tgt := 129) (by decide) (fun hq => ?_) (fun hq => ?_)
            · replace h := h.2.1 hq
              clear hq
              refine a_sub (ls1 := [(0, Value.ref (ad 161)), (2, vI p2), (3, vI x3), (4, vI x4), (5, vI x8)]) [1, 2, 3, 4, 0] rfl ?_
              exact hjj129  h
            · replace h := h.2.2 hq
              clear hq
              refine a_aload_n (pc := 113) a 1 dX7_limit_113 rfl rfl ?_
              refine a_getR (pc := 114) a 0 0 rfl tb vc7 w2 w1 (by decide) (by decide) 1 (q := 162) rfl rfl dX7_limit_114 ?_
              refine a_iload_n (pc := 117) a 3 dX7_limit_117 rfl rfl ?_
              refine a_iald (pc := 118) a w3 (by decide) h.1 dX7_limit_118 ?_
              replace h := h.2
              refine a_iconst (pc := 119) a dX7_limit_119 ?_
              refine a_icmp_ne (pc := 120) a h.1 ⟨by decide, by decide⟩ dX7_limit_120 (tgt := 129) (by decide) (fun hq => ?_) (fun hq => ?_)
              · replace h := h.2.1 hq
                clear hq
                refine a_sub (ls1 := [(0, Value.ref (ad 161)), (2, vI p2), (3, vI x3), (4, vI x4), (5, vI x8)]) [1, 2, 3, 4, 0] rfl ?_
                exact hjj129  h
              · replace h := h.2.2 hq
                clear hq
                refine a_aload_n (pc := 123) a 1 dX7_limit_123 rfl rfl ?_
                refine a_iconst (pc := 124) a dX7_limit_124 ?_
                refine a_cvi (pc := 125) a (As := [vI 3]) (rest := []) tb vc7 (fun sz => c_X7_fails hinj hl0  h sz) (cwV 1 hts (gl_V (GL_8 _ (by decide +kernel)) (GL_8 _ (by decide +kernel)) (GL_8 _ (by decide +kernel)) (GL_1 _ (by decide +kernel)) (GL_8 _ (by decide +kernel))) rfl rfl rfl (by decide +kernel) ⟨Nat.le_of_ble_eq_true rfl, Nat.le_of_ble_eq_true rfl⟩) rfl rfl (Nat.le_of_ble_eq_true rfl) ⟨Nat.le_of_ble_eq_true rfl, Nat.le_of_ble_eq_true rfl⟩ dX7_limit_125 ?_
                clear h
                intro x10 s11 h
                exact e_i (pc := 128) a hr dX7_limit_128 h
        · clear h
          intro jj106 hjj106 h
          refine g_wj0 105 0 0 [(0, Value.ref (ad 161)), (2, vI p2), (3, vI x3), (4, vI x4)] [] h ?_ ?_
          · clear h
            intro  h
            refine a_iconst (pc := 105) a dX7_limit_105 ?_
            exact hjj106 0 h
          · clear h
            intro jj105 hjj105 h
            refine a_icmp_ge (pc := 83) a h.1 h.2.1 dX7_limit_83 (tgt := 105) (by decide) (fun hq => ?_) (fun hq => ?_)
            · replace h := h.2.2.1 hq
              clear hq
              exact hjj105  h
            · replace h := h.2.2.2 hq
              clear hq
              refine a_aload_n (pc := 86) a 0 dX7_limit_86 rfl rfl ?_
              refine a_getR (pc := 87) a 0 0 rfl tb vc7 w2 w1 (by decide) (by decide) 1 (q := 162) rfl rfl dX7_limit_87 ?_
              refine a_iload_n (pc := 90) a 2 dX7_limit_90 rfl rfl ?_
              refine a_iconst (pc := 91) a dX7_limit_91 ?_
              refine a_iadd (pc := 92) a dX7_limit_92 ?_
              refine a_iload (pc := 93) a 3 dX7_limit_93 rfl ?_
              refine a_iadd (pc := 95) a dX7_limit_95 ?_
              refine a_iald (pc := 96) a w3 (by decide) h.1 dX7_limit_96 ?_
              replace h := h.2
              refine a_iload_n (pc := 97) a 1 dX7_limit_97 rfl rfl ?_
              refine a_icmp_ne (pc := 98) a h.1 h.2.1 dX7_limit_98 (tgt := 105) (by decide) (fun hq => ?_) (fun hq => ?_)
              · replace h := h.2.2.1 hq
                clear hq
                exact hjj105  h
              · replace h := h.2.2.2 hq
                clear hq
                refine a_iconst (pc := 101) a dX7_limit_101 ?_
                refine a_goto (pc := 102) a dX7_limit_102 (tgt := 106) (by decide) ?_
                exact hjj106 1 h
      · clear h
        intro jj75 hjj75 h
        refine a_icmp_ge (pc := 51) a h.1 h.2.1 dX7_limit_51 (tgt := 75) (by decide) (fun hq => ?_) (fun hq => ?_)
        · replace h := h.2.2.1 hq
          clear hq
          exact hjj75  h
        · replace h := h.2.2.2 hq
          clear hq
          refine a_aload_n (pc := 54) a 0 dX7_limit_54 rfl rfl ?_
          refine a_getR (pc := 55) a 0 0 rfl tb vc7 w2 w1 (by decide) (by decide) 1 (q := 162) rfl rfl dX7_limit_55 ?_
          refine a_iload_n (pc := 58) a 2 dX7_limit_58 rfl rfl ?_
          refine a_iconst (pc := 59) a dX7_limit_59 ?_
          refine a_iadd (pc := 60) a dX7_limit_60 ?_
          refine a_iload (pc := 61) a 3 dX7_limit_61 rfl ?_
          refine a_iadd (pc := 63) a dX7_limit_63 ?_
          refine a_iald (pc := 64) a w3 (by decide) h.1 dX7_limit_64 ?_
          replace h := h.2
          refine a_iload_n (pc := 65) a 1 dX7_limit_65 rfl rfl ?_
          refine a_icmp_ge (pc := 66) a h.1 h.2.1 dX7_limit_66 (tgt := 75) (by decide) (fun hq => ?_) (fun hq => ?_)
          · replace h := h.2.2.1 hq
            clear hq
            exact hjj75  h
          · replace h := h.2.2.2 hq
            clear hq
            refine a_iinc (pc := 69) a (ls1 := [(4, vI (x4 + 1)), (0, Value.ref (ad 161)), (2, vI p2), (3, vI x3)]) 3 dX7_limit_69 rfl (by decide) rfl ?_
            refine a_goto (pc := 72) a dX7_limit_72 (tgt := 43) (by decide) ?_
            refine a_sub (ls1 := [(0, Value.ref (ad 161)), (2, vI p2), (3, vI x3), (4, vI (x4 + 1))]) [1, 2, 3, 0] rfl ?_
            exact hag43 (x4 + 1) h
    · replace h := h.2.2 hq
      clear hq
      refine a_aload_n (pc := 24) a 0 dX7_limit_24 rfl rfl ?_
      refine a_iconst (pc := 25) a dX7_limit_25 ?_
      refine a_cvi (pc := 26) a (As := [vI 2]) (rest := []) tb vc7 (fun sz => c_X7_fails hinj hl0  h sz) (cwV 1 hts (gl_V (GL_8 _ (by decide +kernel)) (GL_8 _ (by decide +kernel)) (GL_8 _ (by decide +kernel)) (GL_1 _ (by decide +kernel)) (GL_8 _ (by decide +kernel))) rfl rfl rfl (by decide +kernel) ⟨Nat.le_of_ble_eq_true rfl, Nat.le_of_ble_eq_true rfl⟩) rfl rfl (Nat.le_of_ble_eq_true rfl) ⟨Nat.le_of_ble_eq_true rfl, Nat.le_of_ble_eq_true rfl⟩ dX7_limit_26 ?_
      clear h
      intro x27 s28 h
      exact e_i (pc := 29) a hr dX7_limit_29 h
  · replace h := h.2.2 hq
    clear hq
    refine a_aload_n (pc := 7) a 0 dX7_limit_7 rfl rfl ?_
    refine a_iconst (pc := 8) a dX7_limit_8 ?_
    refine a_cvi (pc := 9) a (As := [vI 1]) (rest := []) tb vc7 (fun sz => c_X7_fails hinj hl0  h sz) (cwV 1 hts (gl_V (GL_8 _ (by decide +kernel)) (GL_8 _ (by decide +kernel)) (GL_8 _ (by decide +kernel)) (GL_1 _ (by decide +kernel)) (GL_8 _ (by decide +kernel))) rfl rfl rfl (by decide +kernel) ⟨Nat.le_of_ble_eq_true rfl, Nat.le_of_ble_eq_true rfl⟩) rfl rfl (Nat.le_of_ble_eq_true rfl) ⟨Nat.le_of_ble_eq_true rfl, Nat.le_of_ble_eq_true rfl⟩ dX7_limit_9 ?_
    clear h
    intro x29 s30 h
    exact e_i (pc := 12) a hr dX7_limit_12 h

set_option maxRecDepth 100000 in
set_option maxHeartbeats 4000000 in
theorem c_X7_valueOf {l : Launch} {D : va_G} {X : XI} {ad : Nat → Nat} (hinj : adI ad) (hl0 : l.stackTraces = false) {p1 : Int}  {σ : St} {K : Int → Prop} (h : f_X7_valueOf p1 σ K) (sz : Nat) : Met l yX7_valueOf (WW (.code yX7_valueOf cX7_valueOf 2 (some .int))) { frames := 4, cells := 0, slots := 0, locals := 86 } (va_Pc [Value.ref (ad 161), vI p1] (WD D X ad σ sz)) (QI D X ad sz (fun r τ => τ = σ ∧ K r)) 0 0 (AA ad sz) := by
  refine a_start (cc := cX7_valueOf) (maxL := 2) (ret := (some .int)) (own := RX7) [Value.ref (ad 161), vI p1] (by decide) rfl rfl (Nat.le_of_ble_eq_true rfl) hinj hl0 ?_
  intro p e s m below meth c a hr hsz
  subst hsz
  have hts := a.1.2.2.2.2
  have tb : tyc 161 (11, 0) := ⟨by decide, rfl⟩
  have w1 := hts (Cond.fieldLink RX7 7 "SightLegendModel" "s" "[I") (List.mem_cons_of_mem _ (GL_5 _ (by decide +kernel)))
  have w2 : ∀ w ∈ u_ws RX7 TX7 29, w ∈ WW (.code yX7_valueOf cX7_valueOf 2 (some .int)) := fun w h => List.mem_cons_of_mem _ (inlX7 w h)
  have w3 : tyc 162 (0, 311) := ty_of (d := 1) (t1 := (0, 311)) (by decide +kernel) rfl tb
  unfold f_X7_valueOf at h
  refine a_sub (ls1 := [(0, Value.ref (ad 161)), (1, vI p1)]) [0, 1] rfl ?_
  refine a_iload_n (pc := 0) a 1 dX7_valueOf_0 rfl rfl ?_
  refine a_bipush (pc := 1) a dX7_valueOf_1 (by decide) ?_
  refine a_icmp_ge (pc := 3) a h.1 ⟨by decide, by decide⟩ dX7_valueOf_3 (tgt := 15) (by decide) (fun hq => ?_) (fun hq => ?_)
  · replace h := h.2.1 hq
    clear hq
    refine a_iload_n (pc := 15) a 1 dX7_valueOf_15 rfl rfl ?_
    refine a_bipush (pc := 16) a dX7_valueOf_16 (by decide) ?_
    refine a_icmp_ne (pc := 18) a h.1 ⟨by decide, by decide⟩ dX7_valueOf_18 (tgt := 28) (by decide) (fun hq => ?_) (fun hq => ?_)
    · replace h := h.2.1 hq
      clear hq
      refine a_aload_n (pc := 28) a 0 dX7_valueOf_28 rfl rfl ?_
      refine a_cvi (pc := 29) a (As := []) (rest := []) tb vc7 (fun sz => c_X7_explainedMany hinj hl0  h sz) (cwV 0 hts (gl_V (GL_25 _ (by decide +kernel)) (GL_25 _ (by decide +kernel)) (GL_25 _ (by decide +kernel)) (GL_1 _ (by decide +kernel)) (GL_25 _ (by decide +kernel))) rfl rfl rfl (by decide +kernel) ⟨Nat.le_of_ble_eq_true rfl, Nat.le_of_ble_eq_true rfl⟩) rfl rfl (Nat.le_of_ble_eq_true rfl) ⟨Nat.le_of_ble_eq_true rfl, Nat.le_of_ble_eq_true rfl⟩ dX7_valueOf_29 ?_
      rintro x1 s9 ⟨hs9, h9⟩
      subst s9
      replace h := h9
      clear h9
      exact e_i (pc := 32) a hr dX7_valueOf_32 ⟨rfl, h⟩
    · replace h := h.2.2 hq
      clear hq
      refine a_aload_n (pc := 21) a 0 dX7_valueOf_21 rfl rfl ?_
      refine a_cvi (pc := 22) a (As := []) (rest := []) tb vc7 (fun sz => c_X7_shownMany hinj hl0  h sz) (cwV 0 hts (gl_V (GL_12 _ (by decide +kernel)) (GL_12 _ (by decide +kernel)) (GL_12 _ (by decide +kernel)) (GL_1 _ (by decide +kernel)) (GL_12 _ (by decide +kernel))) rfl rfl rfl (by decide +kernel) ⟨Nat.le_of_ble_eq_true rfl, Nat.le_of_ble_eq_true rfl⟩) rfl rfl (Nat.le_of_ble_eq_true rfl) ⟨Nat.le_of_ble_eq_true rfl, Nat.le_of_ble_eq_true rfl⟩ dX7_valueOf_22 ?_
      rintro x2 s9 ⟨hs9, h9⟩
      subst s9
      replace h := h9
      clear h9
      refine a_goto (pc := 25) a dX7_valueOf_25 (tgt := 32) (by decide) ?_
      exact e_i (pc := 32) a hr dX7_valueOf_32 ⟨rfl, h⟩
  · replace h := h.2.2 hq
    clear hq
    refine a_aload_n (pc := 6) a 0 dX7_valueOf_6 rfl rfl ?_
    refine a_getR (pc := 7) a 0 0 rfl tb vc7 w2 w1 (by decide) (by decide) 1 (q := 162) rfl rfl dX7_valueOf_7 ?_
    refine a_iload_n (pc := 10) a 1 dX7_valueOf_10 rfl rfl ?_
    refine a_iald (pc := 11) a w3 (by decide) h.1 dX7_valueOf_11 ?_
    replace h := h.2
    refine a_goto (pc := 12) a dX7_valueOf_12 (tgt := 32) (by decide) ?_
    exact e_i (pc := 32) a hr dX7_valueOf_32 ⟨rfl, h⟩

set_option maxRecDepth 100000 in
set_option maxHeartbeats 4000000 in
theorem c_X7_value {l : Launch} {D : va_G} {X : XI} {ad : Nat → Nat} (hinj : adI ad) (hl0 : l.stackTraces = false) {p1 : Int}  {σ : St} {K : Int → St → Prop} (h : f_X7_value p1 σ K) (sz : Nat) : Met l yX7_value (WW (.code yX7_value cX7_value 2 (some .int))) { frames := 8, cells := 0, slots := 0, locals := 182 } (va_Pc [Value.ref (ad 161), vI p1] (WD D X ad σ sz)) (QI D X ad sz K) 0 0 (AA ad sz) := by
  refine a_start (cc := cX7_value) (maxL := 2) (ret := (some .int)) (own := RX7) [Value.ref (ad 161), vI p1] (by decide) rfl rfl (Nat.le_of_ble_eq_true rfl) hinj hl0 ?_
  intro p e s m below meth c a hr hsz
  subst hsz
  have hts := a.1.2.2.2.2
  have tb : tyc 161 (11, 0) := ⟨by decide, rfl⟩
  unfold f_X7_value at h
  refine a_sub (ls1 := [(0, Value.ref (ad 161)), (1, vI p1)]) [0, 1] rfl ?_
  refine a_iload_n (pc := 0) a 1 dX7_value_0 rfl rfl ?_
  refine a_iconst (pc := 1) a dX7_value_1 ?_
  refine a_bipush (pc := 2) a dX7_value_2 (by decide) ?_
  refine a_csi (pc := 4) a (As := [vI p1, vI 0, vI 11]) (rest := []) (fun sz => c_X7_in hinj hl0  h sz) (va_cwS 3 hts (gl_S (GL_8 _ (by decide +kernel)) (GL_8 _ (by decide +kernel)) (GL_1 _ (by decide +kernel)) (GL_8 _ (by decide +kernel))) rfl rfl rfl (by decide +kernel) ⟨Nat.le_of_ble_eq_true rfl, Nat.le_of_ble_eq_true rfl⟩) rfl rfl (Nat.le_of_ble_eq_true rfl) ⟨Nat.le_of_ble_eq_true rfl, Nat.le_of_ble_eq_true rfl⟩ dX7_value_4 ?_
  rintro x1 s9 ⟨hs9, h9⟩
  subst s9
  replace h := h9
  clear h9
  refine a_if_ne (pc := 7) a h.1 dX7_value_7 (tgt := 16) (by decide) (fun hq => ?_) (fun hq => ?_)
  · replace h := h.2.1 hq
    clear hq
    refine a_aload_n (pc := 16) a 0 dX7_value_16 rfl rfl ?_
    refine a_cvv (pc := 17) a (As := []) (rest := []) tb vc7 (fun sz => c_X7_makes hinj hl0  h sz) (cwV 0 hts (gl_V (GL_21 _ (by decide +kernel)) (GL_21 _ (by decide +kernel)) (GL_22 _ (by decide +kernel)) (GL_1 _ (by decide +kernel)) (GL_22 _ (by decide +kernel))) rfl rfl rfl (by decide +kernel) ⟨Nat.le_of_ble_eq_true rfl, Nat.le_of_ble_eq_true rfl⟩) rfl rfl (Nat.le_of_ble_eq_true rfl) ⟨Nat.le_of_ble_eq_true rfl, Nat.le_of_ble_eq_true rfl⟩ dX7_value_17 ?_
    clear h
    intro s2 h
    refine a_aload_n (pc := 20) a 0 dX7_value_20 rfl rfl ?_
    refine a_aload_n (pc := 21) a 0 dX7_value_21 rfl rfl ?_
    refine a_iload_n (pc := 22) a 1 dX7_value_22 rfl rfl ?_
    refine a_cvi (pc := 23) a (As := [vI p1]) (rest := [Value.ref (ad 161)]) tb vc7 (fun sz => c_X7_valueOf hinj hl0  h sz) (cwV 1 hts (gl_V (GL_25 _ (by decide +kernel)) (GL_25 _ (by decide +kernel)) (GL_25 _ (by decide +kernel)) (GL_1 _ (by decide +kernel)) (GL_25 _ (by decide +kernel))) rfl rfl rfl (by decide +kernel) ⟨Nat.le_of_ble_eq_true rfl, Nat.le_of_ble_eq_true rfl⟩) rfl rfl (Nat.le_of_ble_eq_true rfl) ⟨Nat.le_of_ble_eq_true rfl, Nat.le_of_ble_eq_true rfl⟩ dX7_value_23 ?_
    rintro x3 s9 ⟨hs9, h9⟩
    subst s9
    replace h := h9
    clear h9
    refine a_cvi (pc := 26) a (As := [vI x3]) (rest := []) tb vc7 (fun sz => c_X7_tells hinj hl0  h sz) (cwV 1 hts (gl_V (GL_8 _ (by decide +kernel)) (GL_8 _ (by decide +kernel)) (GL_8 _ (by decide +kernel)) (GL_1 _ (by decide +kernel)) (GL_9 _ (by decide +kernel))) rfl rfl rfl (by decide +kernel) ⟨Nat.le_of_ble_eq_true rfl, Nat.le_of_ble_eq_true rfl⟩) rfl rfl (Nat.le_of_ble_eq_true rfl) ⟨Nat.le_of_ble_eq_true rfl, Nat.le_of_ble_eq_true rfl⟩ dX7_value_26 ?_
    clear h
    intro x4 s5 h
    exact e_i (pc := 29) a hr dX7_value_29 h
  · replace h := h.2.2 hq
    clear hq
    refine a_aload_n (pc := 10) a 0 dX7_value_10 rfl rfl ?_
    refine a_iconst (pc := 11) a dX7_value_11 ?_
    refine a_cvi (pc := 12) a (As := [vI 1]) (rest := []) tb vc7 (fun sz => c_X7_fails hinj hl0  h sz) (cwV 1 hts (gl_V (GL_8 _ (by decide +kernel)) (GL_8 _ (by decide +kernel)) (GL_8 _ (by decide +kernel)) (GL_1 _ (by decide +kernel)) (GL_8 _ (by decide +kernel))) rfl rfl rfl (by decide +kernel) ⟨Nat.le_of_ble_eq_true rfl, Nat.le_of_ble_eq_true rfl⟩) rfl rfl (Nat.le_of_ble_eq_true rfl) ⟨Nat.le_of_ble_eq_true rfl, Nat.le_of_ble_eq_true rfl⟩ dX7_value_12 ?_
    clear h
    intro x6 s7 h
    exact e_i (pc := 15) a hr dX7_value_15 h

set_option maxRecDepth 100000 in
set_option maxHeartbeats 4000000 in
theorem c_X7_standsFor {l : Launch} {D : va_G} {X : XI} {ad : Nat → Nat} (hinj : adI ad) (hl0 : l.stackTraces = false) {p1 : Int} {p2 : Int}  {σ : St} {K : Int → Prop} (h : f_X7_standsFor p1 p2 σ K) (sz : Nat) : Met l yX7_standsFor (WW (.code yX7_standsFor cX7_standsFor 3 (some .boolean))) { frames := 2, cells := 0, slots := 0, locals := 46 } (va_Pc [Value.ref (ad 161), vI p1, vI p2] (WD D X ad σ sz)) (QI D X ad sz (fun r τ => τ = σ ∧ K r)) 0 0 (AA ad sz) := by
  refine a_start (cc := cX7_standsFor) (maxL := 3) (ret := (some .boolean)) (own := RX7) [Value.ref (ad 161), vI p1, vI p2] (by decide) rfl rfl (Nat.le_of_ble_eq_true rfl) hinj hl0 ?_
  intro p e s m below meth c a hr hsz
  subst hsz
  have hts := a.1.2.2.2.2
  have tb : tyc 161 (11, 0) := ⟨by decide, rfl⟩
  have w1 := hts (Cond.fieldLink RX7 25 "SightLegendModel" "sight" "[Z") (List.mem_cons_of_mem _ (GL_5 _ (by decide +kernel)))
  have w2 : ∀ w ∈ u_ws RX7 TX7 29, w ∈ WW (.code yX7_standsFor cX7_standsFor 3 (some .boolean)) := fun w h => List.mem_cons_of_mem _ (inlX7 w h)
  have w3 : tyc 167 (1, 40) := ty_of (d := 6) (t1 := (1, 40)) (by decide +kernel) rfl tb
  have w4 := hts (Cond.fieldLink RX7 29 "SightLegendModel" "line" "[I") (List.mem_cons_of_mem _ (GL_5 _ (by decide +kernel)))
  have w5 : tyc 168 (0, 400) := ty_of (d := 7) (t1 := (0, 400)) (by decide +kernel) rfl tb
  unfold f_X7_standsFor at h
  refine a_sub (ls1 := [(0, Value.ref (ad 161)), (1, vI p1), (2, vI p2)]) [0, 1, 2] rfl ?_
  refine a_aload_n (pc := 0) a 0 dX7_standsFor_0 rfl rfl ?_
  refine a_getR (pc := 1) a 8 8 rfl tb vc7 w2 w1 (by decide) (by decide) 6 (q := 167) rfl rfl dX7_standsFor_1 ?_
  refine a_iload_n (pc := 4) a 2 dX7_standsFor_4 rfl rfl ?_
  refine a_zald (pc := 5) a w3 (by decide) h.1 dX7_standsFor_5 ?_
  replace h := h.2
  refine a_if_eq (pc := 6) a h.1 dX7_standsFor_6 (tgt := 21) (by decide) (fun hq => ?_) (fun hq => ?_)
  · replace h := h.2.1 hq
    clear hq
    refine a_iconst (pc := 21) a dX7_standsFor_21 ?_
    exact e_z (pc := 22) a hr (by decide) dX7_standsFor_22 ⟨rfl, h⟩
  · replace h := h.2.2 hq
    clear hq
    refine a_aload_n (pc := 9) a 0 dX7_standsFor_9 rfl rfl ?_
    refine a_getR (pc := 10) a 9 9 rfl tb vc7 w2 w4 (by decide) (by decide) 7 (q := 168) rfl rfl dX7_standsFor_10 ?_
    refine a_iconst (pc := 13) a dX7_standsFor_13 ?_
    refine a_iload_n (pc := 14) a 1 dX7_standsFor_14 rfl rfl ?_
    refine a_imul (pc := 15) a dX7_standsFor_15 ?_
    refine a_iald (pc := 16) a w5 (by decide) h.1 dX7_standsFor_16 ?_
    replace h := h.2
    refine a_iconst (pc := 17) a dX7_standsFor_17 ?_
    refine a_icmp_ne (pc := 18) a h.1 ⟨by decide, by decide⟩ dX7_standsFor_18 (tgt := 23) (by decide) (fun hq => ?_) (fun hq => ?_)
    · replace h := h.2.1 hq
      clear hq
      refine a_aload_n (pc := 23) a 0 dX7_standsFor_23 rfl rfl ?_
      refine a_getR (pc := 24) a 9 9 rfl tb vc7 w2 w4 (by decide) (by decide) 7 (q := 168) rfl rfl dX7_standsFor_24 ?_
      refine a_iconst (pc := 27) a dX7_standsFor_27 ?_
      refine a_iload_n (pc := 28) a 1 dX7_standsFor_28 rfl rfl ?_
      refine a_imul (pc := 29) a dX7_standsFor_29 ?_
      refine a_iald (pc := 30) a w5 (by decide) h.1 dX7_standsFor_30 ?_
      replace h := h.2
      refine a_iconst (pc := 31) a dX7_standsFor_31 ?_
      refine a_icmp_ne (pc := 32) a h.1 ⟨by decide, by decide⟩ dX7_standsFor_32 (tgt := 64) (by decide) (fun hq => ?_) (fun hq => ?_)
      · replace h := h.2.1 hq
        clear hq
        refine a_aload_n (pc := 64) a 0 dX7_standsFor_64 rfl rfl ?_
        refine a_getR (pc := 65) a 9 9 rfl tb vc7 w2 w4 (by decide) (by decide) 7 (q := 168) rfl rfl dX7_standsFor_65 ?_
        refine a_iconst (pc := 68) a dX7_standsFor_68 ?_
        refine a_iload_n (pc := 69) a 1 dX7_standsFor_69 rfl rfl ?_
        refine a_imul (pc := 70) a dX7_standsFor_70 ?_
        refine a_iconst (pc := 71) a dX7_standsFor_71 ?_
        refine a_iadd (pc := 72) a dX7_standsFor_72 ?_
        refine a_iald (pc := 73) a w5 (by decide) h.1 dX7_standsFor_73 ?_
        replace h := h.2
        refine a_aload_n (pc := 74) a 0 dX7_standsFor_74 rfl rfl ?_
        refine a_iload_n (pc := 75) a 2 dX7_standsFor_75 rfl rfl ?_
        refine a_iconst (pc := 76) a dX7_standsFor_76 ?_
        refine a_cvi (pc := 77) a (As := [vI p2, vI 0]) (rest := [vI (σ 168 ((5 * p1) + 1))]) tb vc7 (fun sz => c_X7_of hinj hl0  h sz) (cwV 2 hts (gl_V (GL_10 _ (by decide +kernel)) (GL_10 _ (by decide +kernel)) (GL_10 _ (by decide +kernel)) (GL_1 _ (by decide +kernel)) (GL_11 _ (by decide +kernel))) rfl rfl rfl (by decide +kernel) ⟨Nat.le_of_ble_eq_true rfl, Nat.le_of_ble_eq_true rfl⟩) rfl rfl (Nat.le_of_ble_eq_true rfl) ⟨Nat.le_of_ble_eq_true rfl, Nat.le_of_ble_eq_true rfl⟩ dX7_standsFor_77 ?_
        rintro x1 s9 ⟨hs9, h9⟩
        subst s9
        replace h := h9
        clear h9
        refine a_icmp_ne (pc := 80) a h.1 h.2.1 dX7_standsFor_80 (tgt := 118) (by decide) (fun hq => ?_) (fun hq => ?_)
        · replace h := h.2.2.1 hq
          clear hq
          refine a_iconst (pc := 118) a dX7_standsFor_118 ?_
          exact e_z (pc := 119) a hr (by decide) dX7_standsFor_119 ⟨rfl, h⟩
        · replace h := h.2.2.2 hq
          clear hq
          refine a_aload_n (pc := 83) a 0 dX7_standsFor_83 rfl rfl ?_
          refine a_iload_n (pc := 84) a 2 dX7_standsFor_84 rfl rfl ?_
          refine a_cvi (pc := 85) a (As := [vI p2]) (rest := []) tb vc7 (fun sz => c_X7_classOf hinj hl0  h sz) (cwV 1 hts (gl_V (GL_23 _ (by decide +kernel)) (GL_23 _ (by decide +kernel)) (GL_23 _ (by decide +kernel)) (GL_1 _ (by decide +kernel)) (GL_23 _ (by decide +kernel))) rfl rfl rfl (by decide +kernel) ⟨Nat.le_of_ble_eq_true rfl, Nat.le_of_ble_eq_true rfl⟩) rfl rfl (Nat.le_of_ble_eq_true rfl) ⟨Nat.le_of_ble_eq_true rfl, Nat.le_of_ble_eq_true rfl⟩ dX7_standsFor_85 ?_
          rintro x2 s9 ⟨hs9, h9⟩
          subst s9
          replace h := h9
          clear h9
          refine a_aload_n (pc := 88) a 0 dX7_standsFor_88 rfl rfl ?_
          refine a_getR (pc := 89) a 9 9 rfl tb vc7 w2 w4 (by decide) (by decide) 7 (q := 168) rfl rfl dX7_standsFor_89 ?_
          refine a_iconst (pc := 92) a dX7_standsFor_92 ?_
          refine a_iload_n (pc := 93) a 1 dX7_standsFor_93 rfl rfl ?_
          refine a_imul (pc := 94) a dX7_standsFor_94 ?_
          refine a_iconst (pc := 95) a dX7_standsFor_95 ?_
          refine a_iadd (pc := 96) a dX7_standsFor_96 ?_
          refine a_iald (pc := 97) a w5 (by decide) h.1 dX7_standsFor_97 ?_
          replace h := h.2
          refine a_aload_n (pc := 98) a 0 dX7_standsFor_98 rfl rfl ?_
          refine a_getR (pc := 99) a 9 9 rfl tb vc7 w2 w4 (by decide) (by decide) 7 (q := 168) rfl rfl dX7_standsFor_99 ?_
          refine a_iconst (pc := 102) a dX7_standsFor_102 ?_
          refine a_iload_n (pc := 103) a 1 dX7_standsFor_103 rfl rfl ?_
          refine a_imul (pc := 104) a dX7_standsFor_104 ?_
          refine a_iconst (pc := 105) a dX7_standsFor_105 ?_
          refine a_iadd (pc := 106) a dX7_standsFor_106 ?_
          refine a_iald (pc := 107) a w5 (by decide) h.1 dX7_standsFor_107 ?_
          replace h := h.2
          refine a_csi (pc := 108) a (As := [vI x2, vI (σ 168 ((5 * p1) + 3)), vI (σ 168 ((5 * p1) + 4))]) (rest := []) (fun sz => c_X7_in hinj hl0  h sz) (va_cwS 3 hts (gl_S (GL_8 _ (by decide +kernel)) (GL_8 _ (by decide +kernel)) (GL_1 _ (by decide +kernel)) (GL_8 _ (by decide +kernel))) rfl rfl rfl (by decide +kernel) ⟨Nat.le_of_ble_eq_true rfl, Nat.le_of_ble_eq_true rfl⟩) rfl rfl (Nat.le_of_ble_eq_true rfl) ⟨Nat.le_of_ble_eq_true rfl, Nat.le_of_ble_eq_true rfl⟩ dX7_standsFor_108 ?_
          rintro x3 s9 ⟨hs9, h9⟩
          subst s9
          replace h := h9
          clear h9
          refine a_if_eq (pc := 111) a h.1 dX7_standsFor_111 (tgt := 118) (by decide) (fun hq => ?_) (fun hq => ?_)
          · replace h := h.2.1 hq
            clear hq
            refine a_iconst (pc := 118) a dX7_standsFor_118 ?_
            exact e_z (pc := 119) a hr (by decide) dX7_standsFor_119 ⟨rfl, h⟩
          · replace h := h.2.2 hq
            clear hq
            refine a_iconst (pc := 114) a dX7_standsFor_114 ?_
            refine a_goto (pc := 115) a dX7_standsFor_115 (tgt := 119) (by decide) ?_
            exact e_z (pc := 119) a hr (by decide) dX7_standsFor_119 ⟨rfl, h⟩
      · replace h := h.2.2 hq
        clear hq
        refine a_aload_n (pc := 35) a 0 dX7_standsFor_35 rfl rfl ?_
        refine a_aload_n (pc := 36) a 0 dX7_standsFor_36 rfl rfl ?_
        refine a_iload_n (pc := 37) a 2 dX7_standsFor_37 rfl rfl ?_
        refine a_iconst (pc := 38) a dX7_standsFor_38 ?_
        refine a_cvi (pc := 39) a (As := [vI p2, vI 0]) (rest := [Value.ref (ad 161)]) tb vc7 (fun sz => c_X7_of hinj hl0  h sz) (cwV 2 hts (gl_V (GL_10 _ (by decide +kernel)) (GL_10 _ (by decide +kernel)) (GL_10 _ (by decide +kernel)) (GL_1 _ (by decide +kernel)) (GL_11 _ (by decide +kernel))) rfl rfl rfl (by decide +kernel) ⟨Nat.le_of_ble_eq_true rfl, Nat.le_of_ble_eq_true rfl⟩) rfl rfl (Nat.le_of_ble_eq_true rfl) ⟨Nat.le_of_ble_eq_true rfl, Nat.le_of_ble_eq_true rfl⟩ dX7_standsFor_39 ?_
        rintro x4 s9 ⟨hs9, h9⟩
        subst s9
        replace h := h9
        clear h9
        refine a_cvi (pc := 42) a (As := [vI x4]) (rest := []) tb vc7 (fun sz => c_X7_groupOf hinj hl0  h sz) (cwV 1 hts (gl_V (GL_23 _ (by decide +kernel)) (GL_23 _ (by decide +kernel)) (GL_23 _ (by decide +kernel)) (GL_1 _ (by decide +kernel)) (GL_23 _ (by decide +kernel))) rfl rfl rfl (by decide +kernel) ⟨Nat.le_of_ble_eq_true rfl, Nat.le_of_ble_eq_true rfl⟩) rfl rfl (Nat.le_of_ble_eq_true rfl) ⟨Nat.le_of_ble_eq_true rfl, Nat.le_of_ble_eq_true rfl⟩ dX7_standsFor_42 ?_
        rintro x5 s9 ⟨hs9, h9⟩
        subst s9
        replace h := h9
        clear h9
        refine a_aload_n (pc := 45) a 0 dX7_standsFor_45 rfl rfl ?_
        refine a_getR (pc := 46) a 9 9 rfl tb vc7 w2 w4 (by decide) (by decide) 7 (q := 168) rfl rfl dX7_standsFor_46 ?_
        refine a_iconst (pc := 49) a dX7_standsFor_49 ?_
        refine a_iload_n (pc := 50) a 1 dX7_standsFor_50 rfl rfl ?_
        refine a_imul (pc := 51) a dX7_standsFor_51 ?_
        refine a_iconst (pc := 52) a dX7_standsFor_52 ?_
        refine a_iadd (pc := 53) a dX7_standsFor_53 ?_
        refine a_iald (pc := 54) a w5 (by decide) h.1 dX7_standsFor_54 ?_
        replace h := h.2
        refine a_icmp_ne (pc := 55) a h.1 h.2.1 dX7_standsFor_55 (tgt := 62) (by decide) (fun hq => ?_) (fun hq => ?_)
        · replace h := h.2.2.1 hq
          clear hq
          refine a_iconst (pc := 62) a dX7_standsFor_62 ?_
          exact e_z (pc := 63) a hr (by decide) dX7_standsFor_63 ⟨rfl, h⟩
        · replace h := h.2.2.2 hq
          clear hq
          refine a_iconst (pc := 58) a dX7_standsFor_58 ?_
          refine a_goto (pc := 59) a dX7_standsFor_59 (tgt := 63) (by decide) ?_
          exact e_z (pc := 63) a hr (by decide) dX7_standsFor_63 ⟨rfl, h⟩
    · replace h := h.2.2 hq
      clear hq
      refine a_iconst (pc := 21) a dX7_standsFor_21 ?_
      exact e_z (pc := 22) a hr (by decide) dX7_standsFor_22 ⟨rfl, h⟩

set_option maxRecDepth 100000 in
set_option maxHeartbeats 4000000 in
theorem c_X7_lineFor {l : Launch} {D : va_G} {X : XI} {ad : Nat → Nat} (hinj : adI ad) (hl0 : l.stackTraces = false) {p1 : Int}  {σ : St} {K : Int → Prop} (h : f_X7_lineFor p1 σ K) (sz : Nat) : Met l yX7_lineFor (WW (.code yX7_lineFor cX7_lineFor 3 (some .int))) { frames := 3, cells := 0, slots := 0, locals := 68 } (va_Pc [Value.ref (ad 161), vI p1] (WD D X ad σ sz)) (QI D X ad sz (fun r τ => τ = σ ∧ K r)) 0 0 (AA ad sz) := by
  refine a_start (cc := cX7_lineFor) (maxL := 3) (ret := (some .int)) (own := RX7) [Value.ref (ad 161), vI p1] (by decide) rfl rfl (Nat.le_of_ble_eq_true rfl) hinj hl0 ?_
  intro p e s m below meth c a hr hsz
  subst hsz
  have hts := a.1.2.2.2.2
  have tb : tyc 161 (11, 0) := ⟨by decide, rfl⟩
  have w1 := hts (Cond.fieldLink RX7 83 "SightLegendModel" "lines" "I") (List.mem_cons_of_mem _ (GL_22 _ (by decide +kernel)))
  have w2 : ∀ w ∈ u_ws RX7 TX7 29, w ∈ WW (.code yX7_lineFor cX7_lineFor 3 (some .int)) := fun w h => List.mem_cons_of_mem _ (inlX7 w h)
  unfold f_X7_lineFor at h
  refine a_sub (ls1 := [(0, Value.ref (ad 161)), (1, vI p1)]) [0, 1] rfl ?_
  refine a_iconst (pc := 0) a dX7_lineFor_0 ?_
  refine a_istore_n (pc := 1) a (ls1 := [(2, vI 0), (0, Value.ref (ad 161)), (1, vI p1)]) dX7_lineFor_1 rfl (by decide) rfl ?_
  refine a_sub (ls1 := [(0, Value.ref (ad 161)), (1, vI p1), (2, vI 0)]) [1, 2, 0] rfl ?_
  refine g_wl1 (fun x1 => [(0, Value.ref (ad 161)), (1, vI p1), (2, vI x1)]) h ?_
  clear h
  intro x1 ag2 hag2 h
  refine a_iload_n (pc := 2) a 2 dX7_lineFor_2 rfl rfl ?_
  refine a_aload_n (pc := 3) a 0 dX7_lineFor_3 rfl rfl ?_
  refine a_getI (pc := 4) a 13 13 rfl tb vc7 w2 w1 (by decide) (by decide) rfl dX7_lineFor_4 ?_
  refine a_icmp_ge (pc := 7) a h.1 h.2.1 dX7_lineFor_7 (tgt := 27) (by decide) (fun hq => ?_) (fun hq => ?_)
  · replace h := h.2.2.1 hq
    clear hq
    refine a_iconst (pc := 27) a dX7_lineFor_27 ?_
    exact e_i (pc := 28) a hr dX7_lineFor_28 ⟨rfl, h⟩
  · replace h := h.2.2.2 hq
    clear hq
    refine a_aload_n (pc := 10) a 0 dX7_lineFor_10 rfl rfl ?_
    refine a_iload_n (pc := 11) a 2 dX7_lineFor_11 rfl rfl ?_
    refine a_iload_n (pc := 12) a 1 dX7_lineFor_12 rfl rfl ?_
    refine a_cvi (pc := 13) a (As := [vI x1, vI p1]) (rest := []) tb vc7 (fun sz => c_X7_standsFor hinj hl0  h sz) (cwV 2 hts (gl_V (GL_27 _ (by decide +kernel)) (GL_27 _ (by decide +kernel)) (GL_27 _ (by decide +kernel)) (GL_1 _ (by decide +kernel)) (GL_27 _ (by decide +kernel))) rfl rfl rfl (by decide +kernel) ⟨Nat.le_of_ble_eq_true rfl, Nat.le_of_ble_eq_true rfl⟩) rfl rfl (Nat.le_of_ble_eq_true rfl) ⟨Nat.le_of_ble_eq_true rfl, Nat.le_of_ble_eq_true rfl⟩ dX7_lineFor_13 ?_
    rintro x2 s9 ⟨hs9, h9⟩
    subst s9
    replace h := h9
    clear h9
    refine a_if_eq (pc := 16) a h.1 dX7_lineFor_16 (tgt := 21) (by decide) (fun hq => ?_) (fun hq => ?_)
    · replace h := h.2.1 hq
      clear hq
      refine a_iinc (pc := 21) a (ls1 := [(2, vI (x1 + 1)), (0, Value.ref (ad 161)), (1, vI p1)]) 2 dX7_lineFor_21 rfl (by decide) rfl ?_
      refine a_goto (pc := 24) a dX7_lineFor_24 (tgt := 2) (by decide) ?_
      refine a_sub (ls1 := [(0, Value.ref (ad 161)), (1, vI p1), (2, vI (x1 + 1))]) [1, 2, 0] rfl ?_
      exact hag2 (x1 + 1) h
    · replace h := h.2.2 hq
      clear hq
      refine a_iload_n (pc := 19) a 2 dX7_lineFor_19 rfl rfl ?_
      exact e_i (pc := 20) a hr dX7_lineFor_20 ⟨rfl, h⟩

set_option maxRecDepth 100000 in
set_option maxHeartbeats 4000000 in
theorem c_X7_signOf {l : Launch} {D : va_G} {X : XI} {ad : Nat → Nat} (hinj : adI ad) (hl0 : l.stackTraces = false) {p1 : Int} {p2 : Int}  {σ : St} {K : Int → Prop} (h : f_X7_signOf p1 p2 σ K) (sz : Nat) : Met l yX7_signOf (WW (.code yX7_signOf cX7_signOf 3 (some .int))) { frames := 4, cells := 0, slots := 0, locals := 90 } (va_Pc [Value.ref (ad 161), vI p1, vI p2] (WD D X ad σ sz)) (QI D X ad sz (fun r τ => τ = σ ∧ K r)) 0 0 (AA ad sz) := by
  refine a_start (cc := cX7_signOf) (maxL := 3) (ret := (some .int)) (own := RX7) [Value.ref (ad 161), vI p1, vI p2] (by decide) rfl rfl (Nat.le_of_ble_eq_true rfl) hinj hl0 ?_
  intro p e s m below meth c a hr hsz
  subst hsz
  have hts := a.1.2.2.2.2
  have tb : tyc 161 (11, 0) := ⟨by decide, rfl⟩
  have w1 := hts (Cond.fieldLink RX7 25 "SightLegendModel" "sight" "[Z") (List.mem_cons_of_mem _ (GL_5 _ (by decide +kernel)))
  have w2 : ∀ w ∈ u_ws RX7 TX7 29, w ∈ WW (.code yX7_signOf cX7_signOf 3 (some .int)) := fun w h => List.mem_cons_of_mem _ (inlX7 w h)
  have w3 : tyc 167 (1, 40) := ty_of (d := 6) (t1 := (1, 40)) (by decide +kernel) rfl tb
  unfold f_X7_signOf at h
  refine a_sub (ls1 := [(0, Value.ref (ad 161)), (1, vI p1), (2, vI p2)]) [0, 1, 2] rfl ?_
  refine a_iload_n (pc := 0) a 2 dX7_signOf_0 rfl rfl ?_
  have hsw : p2 = 5 ∨ p2 = 6 ∨ p2 = 7 ∨ p2 = 8 ∨ (p2 < 5 ∨ 8 < p2) := by omega
  rcases hsw with hq | hq | hq | hq | hq
  · replace h := h.2.1 hq
    refine a_tsIn (pc := 1) a 5 hq ⟨by decide, by decide⟩ dX7_signOf_1 (by decide) (by decide) rfl (tgt := 32) (by decide) ?_
    clear hq
    refine a_aload_n (pc := 32) a 0 dX7_signOf_32 rfl rfl ?_
    refine a_iload_n (pc := 33) a 1 dX7_signOf_33 rfl rfl ?_
    refine a_cvi (pc := 34) a (As := [vI p1]) (rest := []) tb vc7 (fun sz => c_X7_classOf hinj hl0  h sz) (cwV 1 hts (gl_V (GL_23 _ (by decide +kernel)) (GL_23 _ (by decide +kernel)) (GL_23 _ (by decide +kernel)) (GL_1 _ (by decide +kernel)) (GL_23 _ (by decide +kernel))) rfl rfl rfl (by decide +kernel) ⟨Nat.le_of_ble_eq_true rfl, Nat.le_of_ble_eq_true rfl⟩) rfl rfl (Nat.le_of_ble_eq_true rfl) ⟨Nat.le_of_ble_eq_true rfl, Nat.le_of_ble_eq_true rfl⟩ dX7_signOf_34 ?_
    rintro x1 s9 ⟨hs9, h9⟩
    subst s9
    replace h := h9
    clear h9
    exact e_i (pc := 37) a hr dX7_signOf_37 ⟨rfl, h⟩
  · replace h := h.2.2.1 hq
    refine a_tsIn (pc := 1) a 6 hq ⟨by decide, by decide⟩ dX7_signOf_1 (by decide) (by decide) rfl (tgt := 38) (by decide) ?_
    clear hq
    refine a_aload_n (pc := 38) a 0 dX7_signOf_38 rfl rfl ?_
    refine a_iload_n (pc := 39) a 1 dX7_signOf_39 rfl rfl ?_
    refine a_cvi (pc := 40) a (As := [vI p1]) (rest := []) tb vc7 (fun sz => c_X7_isShown hinj hl0  h sz) (cwV 1 hts (gl_V (GL_12 _ (by decide +kernel)) (GL_12 _ (by decide +kernel)) (GL_12 _ (by decide +kernel)) (GL_1 _ (by decide +kernel)) (GL_12 _ (by decide +kernel))) rfl rfl rfl (by decide +kernel) ⟨Nat.le_of_ble_eq_true rfl, Nat.le_of_ble_eq_true rfl⟩) rfl rfl (Nat.le_of_ble_eq_true rfl) ⟨Nat.le_of_ble_eq_true rfl, Nat.le_of_ble_eq_true rfl⟩ dX7_signOf_40 ?_
    rintro x2 s9 ⟨hs9, h9⟩
    subst s9
    replace h := h9
    clear h9
    refine a_if_eq (pc := 43) a h.1 dX7_signOf_43 (tgt := 50) (by decide) (fun hq => ?_) (fun hq => ?_)
    · replace h := h.2.1 hq
      clear hq
      refine a_iconst (pc := 50) a dX7_signOf_50 ?_
      exact e_i (pc := 51) a hr dX7_signOf_51 ⟨rfl, h⟩
    · replace h := h.2.2 hq
      clear hq
      refine a_iconst (pc := 46) a dX7_signOf_46 ?_
      refine a_goto (pc := 47) a dX7_signOf_47 (tgt := 51) (by decide) ?_
      exact e_i (pc := 51) a hr dX7_signOf_51 ⟨rfl, h⟩
  · replace h := h.2.2.2.1 hq
    refine a_tsIn (pc := 1) a 7 hq ⟨by decide, by decide⟩ dX7_signOf_1 (by decide) (by decide) rfl (tgt := 52) (by decide) ?_
    clear hq
    refine a_aload_n (pc := 52) a 0 dX7_signOf_52 rfl rfl ?_
    refine a_getR (pc := 53) a 8 8 rfl tb vc7 w2 w1 (by decide) (by decide) 6 (q := 167) rfl rfl dX7_signOf_53 ?_
    refine a_iload_n (pc := 56) a 1 dX7_signOf_56 rfl rfl ?_
    refine a_zald (pc := 57) a w3 (by decide) h.1 dX7_signOf_57 ?_
    replace h := h.2
    refine a_if_eq (pc := 58) a h.1 dX7_signOf_58 (tgt := 65) (by decide) (fun hq => ?_) (fun hq => ?_)
    · replace h := h.2.1 hq
      clear hq
      refine a_iconst (pc := 65) a dX7_signOf_65 ?_
      exact e_i (pc := 66) a hr dX7_signOf_66 ⟨rfl, h⟩
    · replace h := h.2.2 hq
      clear hq
      refine a_iconst (pc := 61) a dX7_signOf_61 ?_
      refine a_goto (pc := 62) a dX7_signOf_62 (tgt := 66) (by decide) ?_
      exact e_i (pc := 66) a hr dX7_signOf_66 ⟨rfl, h⟩
  · replace h := h.2.2.2.2.1 hq
    refine a_tsIn (pc := 1) a 8 hq ⟨by decide, by decide⟩ dX7_signOf_1 (by decide) (by decide) rfl (tgt := 67) (by decide) ?_
    clear hq
    refine a_aload_n (pc := 67) a 0 dX7_signOf_67 rfl rfl ?_
    refine a_iload_n (pc := 68) a 1 dX7_signOf_68 rfl rfl ?_
    refine a_cvi (pc := 69) a (As := [vI p1]) (rest := []) tb vc7 (fun sz => c_X7_lineFor hinj hl0  h sz) (cwV 1 hts (gl_V (GL_26 _ (by decide +kernel)) (GL_26 _ (by decide +kernel)) (GL_26 _ (by decide +kernel)) (GL_1 _ (by decide +kernel)) (GL_27 _ (by decide +kernel))) rfl rfl rfl (by decide +kernel) ⟨Nat.le_of_ble_eq_true rfl, Nat.le_of_ble_eq_true rfl⟩) rfl rfl (Nat.le_of_ble_eq_true rfl) ⟨Nat.le_of_ble_eq_true rfl, Nat.le_of_ble_eq_true rfl⟩ dX7_signOf_69 ?_
    rintro x3 s9 ⟨hs9, h9⟩
    subst s9
    replace h := h9
    clear h9
    exact e_i (pc := 72) a hr dX7_signOf_72 ⟨rfl, h⟩
  · have hr := h.1
    replace h := h.2.2.2.2.2 hq
    refine a_tsOut (pc := 1) a hr dX7_signOf_1 hq (tgt := 73) (by decide) ?_
    clear hq hr
    refine a_aload_n (pc := 73) a 0 dX7_signOf_73 rfl rfl ?_
    refine a_iload_n (pc := 74) a 1 dX7_signOf_74 rfl rfl ?_
    refine a_iload_n (pc := 75) a 2 dX7_signOf_75 rfl rfl ?_
    refine a_cvi (pc := 76) a (As := [vI p1, vI p2]) (rest := []) tb vc7 (fun sz => c_X7_of hinj hl0  h sz) (cwV 2 hts (gl_V (GL_10 _ (by decide +kernel)) (GL_10 _ (by decide +kernel)) (GL_10 _ (by decide +kernel)) (GL_1 _ (by decide +kernel)) (GL_11 _ (by decide +kernel))) rfl rfl rfl (by decide +kernel) ⟨Nat.le_of_ble_eq_true rfl, Nat.le_of_ble_eq_true rfl⟩) rfl rfl (Nat.le_of_ble_eq_true rfl) ⟨Nat.le_of_ble_eq_true rfl, Nat.le_of_ble_eq_true rfl⟩ dX7_signOf_76 ?_
    rintro x4 s9 ⟨hs9, h9⟩
    subst s9
    replace h := h9
    clear h9
    exact e_i (pc := 79) a hr dX7_signOf_79 ⟨rfl, h⟩

set_option maxRecDepth 100000 in
set_option maxHeartbeats 4000000 in
theorem c_X7_sign {l : Launch} {D : va_G} {X : XI} {ad : Nat → Nat} (hinj : adI ad) (hl0 : l.stackTraces = false) {p1 : Int} {p2 : Int}  {σ : St} {K : Int → St → Prop} (h : f_X7_sign p1 p2 σ K) (sz : Nat) : Met l yX7_sign (WW (.code yX7_sign cX7_sign 3 (some .int))) { frames := 8, cells := 0, slots := 0, locals := 182 } (va_Pc [Value.ref (ad 161), vI p1, vI p2] (WD D X ad σ sz)) (QI D X ad sz K) 0 0 (AA ad sz) := by
  refine a_start (cc := cX7_sign) (maxL := 3) (ret := (some .int)) (own := RX7) [Value.ref (ad 161), vI p1, vI p2] (by decide) rfl rfl (Nat.le_of_ble_eq_true rfl) hinj hl0 ?_
  intro p e s m below meth c a hr hsz
  subst hsz
  have hts := a.1.2.2.2.2
  have tb : tyc 161 (11, 0) := ⟨by decide, rfl⟩
  unfold f_X7_sign at h
  refine a_sub (ls1 := [(0, Value.ref (ad 161)), (1, vI p1), (2, vI p2)]) [0, 1, 2] rfl ?_
  refine a_aload_n (pc := 0) a 0 dX7_sign_0 rfl rfl ?_
  refine a_iload_n (pc := 1) a 1 dX7_sign_1 rfl rfl ?_
  refine a_cvi (pc := 2) a (As := [vI p1]) (rest := []) tb vc7 (fun sz => c_X7_isSign hinj hl0  h sz) (cwV 1 hts (gl_V (GL_10 _ (by decide +kernel)) (GL_10 _ (by decide +kernel)) (GL_10 _ (by decide +kernel)) (GL_1 _ (by decide +kernel)) (GL_10 _ (by decide +kernel))) rfl rfl rfl (by decide +kernel) ⟨Nat.le_of_ble_eq_true rfl, Nat.le_of_ble_eq_true rfl⟩) rfl rfl (Nat.le_of_ble_eq_true rfl) ⟨Nat.le_of_ble_eq_true rfl, Nat.le_of_ble_eq_true rfl⟩ dX7_sign_2 ?_
  rintro x1 s9 ⟨hs9, h9⟩
  subst s9
  replace h := h9
  clear h9
  refine a_if_ne (pc := 5) a h.1 dX7_sign_5 (tgt := 14) (by decide) (fun hq => ?_) (fun hq => ?_)
  · replace h := h.2.1 hq
    clear hq
    refine a_iload_n (pc := 14) a 2 dX7_sign_14 rfl rfl ?_
    refine a_iconst (pc := 15) a dX7_sign_15 ?_
    refine a_bipush (pc := 16) a dX7_sign_16 (by decide) ?_
    refine a_csi (pc := 18) a (As := [vI p2, vI 0, vI 8]) (rest := []) (fun sz => c_X7_in hinj hl0  h sz) (va_cwS 3 hts (gl_S (GL_8 _ (by decide +kernel)) (GL_8 _ (by decide +kernel)) (GL_1 _ (by decide +kernel)) (GL_8 _ (by decide +kernel))) rfl rfl rfl (by decide +kernel) ⟨Nat.le_of_ble_eq_true rfl, Nat.le_of_ble_eq_true rfl⟩) rfl rfl (Nat.le_of_ble_eq_true rfl) ⟨Nat.le_of_ble_eq_true rfl, Nat.le_of_ble_eq_true rfl⟩ dX7_sign_18 ?_
    rintro x2 s9 ⟨hs9, h9⟩
    subst s9
    replace h := h9
    clear h9
    refine a_if_ne (pc := 21) a h.1 dX7_sign_21 (tgt := 30) (by decide) (fun hq => ?_) (fun hq => ?_)
    · replace h := h.2.1 hq
      clear hq
      refine a_aload_n (pc := 30) a 0 dX7_sign_30 rfl rfl ?_
      refine a_cvv (pc := 31) a (As := []) (rest := []) tb vc7 (fun sz => c_X7_makes hinj hl0  h sz) (cwV 0 hts (gl_V (GL_21 _ (by decide +kernel)) (GL_21 _ (by decide +kernel)) (GL_22 _ (by decide +kernel)) (GL_1 _ (by decide +kernel)) (GL_22 _ (by decide +kernel))) rfl rfl rfl (by decide +kernel) ⟨Nat.le_of_ble_eq_true rfl, Nat.le_of_ble_eq_true rfl⟩) rfl rfl (Nat.le_of_ble_eq_true rfl) ⟨Nat.le_of_ble_eq_true rfl, Nat.le_of_ble_eq_true rfl⟩ dX7_sign_31 ?_
      clear h
      intro s3 h
      refine a_aload_n (pc := 34) a 0 dX7_sign_34 rfl rfl ?_
      refine a_aload_n (pc := 35) a 0 dX7_sign_35 rfl rfl ?_
      refine a_iload_n (pc := 36) a 1 dX7_sign_36 rfl rfl ?_
      refine a_iload_n (pc := 37) a 2 dX7_sign_37 rfl rfl ?_
      refine a_cvi (pc := 38) a (As := [vI p1, vI p2]) (rest := [Value.ref (ad 161)]) tb vc7 (fun sz => c_X7_signOf hinj hl0  h sz) (cwV 2 hts (gl_V (GL_26 _ (by decide +kernel)) (GL_26 _ (by decide +kernel)) (GL_26 _ (by decide +kernel)) (GL_1 _ (by decide +kernel)) (GL_26 _ (by decide +kernel))) rfl rfl rfl (by decide +kernel) ⟨Nat.le_of_ble_eq_true rfl, Nat.le_of_ble_eq_true rfl⟩) rfl rfl (Nat.le_of_ble_eq_true rfl) ⟨Nat.le_of_ble_eq_true rfl, Nat.le_of_ble_eq_true rfl⟩ dX7_sign_38 ?_
      rintro x4 s9 ⟨hs9, h9⟩
      subst s9
      replace h := h9
      clear h9
      refine a_cvi (pc := 41) a (As := [vI x4]) (rest := []) tb vc7 (fun sz => c_X7_tells hinj hl0  h sz) (cwV 1 hts (gl_V (GL_8 _ (by decide +kernel)) (GL_8 _ (by decide +kernel)) (GL_8 _ (by decide +kernel)) (GL_1 _ (by decide +kernel)) (GL_9 _ (by decide +kernel))) rfl rfl rfl (by decide +kernel) ⟨Nat.le_of_ble_eq_true rfl, Nat.le_of_ble_eq_true rfl⟩) rfl rfl (Nat.le_of_ble_eq_true rfl) ⟨Nat.le_of_ble_eq_true rfl, Nat.le_of_ble_eq_true rfl⟩ dX7_sign_41 ?_
      clear h
      intro x5 s6 h
      exact e_i (pc := 44) a hr dX7_sign_44 h
    · replace h := h.2.2 hq
      clear hq
      refine a_aload_n (pc := 24) a 0 dX7_sign_24 rfl rfl ?_
      refine a_iconst (pc := 25) a dX7_sign_25 ?_
      refine a_cvi (pc := 26) a (As := [vI 2]) (rest := []) tb vc7 (fun sz => c_X7_fails hinj hl0  h sz) (cwV 1 hts (gl_V (GL_8 _ (by decide +kernel)) (GL_8 _ (by decide +kernel)) (GL_8 _ (by decide +kernel)) (GL_1 _ (by decide +kernel)) (GL_8 _ (by decide +kernel))) rfl rfl rfl (by decide +kernel) ⟨Nat.le_of_ble_eq_true rfl, Nat.le_of_ble_eq_true rfl⟩) rfl rfl (Nat.le_of_ble_eq_true rfl) ⟨Nat.le_of_ble_eq_true rfl, Nat.le_of_ble_eq_true rfl⟩ dX7_sign_26 ?_
      clear h
      intro x7 s8 h
      exact e_i (pc := 29) a hr dX7_sign_29 h
  · replace h := h.2.2 hq
    clear hq
    refine a_aload_n (pc := 8) a 0 dX7_sign_8 rfl rfl ?_
    refine a_iconst (pc := 9) a dX7_sign_9 ?_
    refine a_cvi (pc := 10) a (As := [vI 1]) (rest := []) tb vc7 (fun sz => c_X7_fails hinj hl0  h sz) (cwV 1 hts (gl_V (GL_8 _ (by decide +kernel)) (GL_8 _ (by decide +kernel)) (GL_8 _ (by decide +kernel)) (GL_1 _ (by decide +kernel)) (GL_8 _ (by decide +kernel))) rfl rfl rfl (by decide +kernel) ⟨Nat.le_of_ble_eq_true rfl, Nat.le_of_ble_eq_true rfl⟩) rfl rfl (Nat.le_of_ble_eq_true rfl) ⟨Nat.le_of_ble_eq_true rfl, Nat.le_of_ble_eq_true rfl⟩ dX7_sign_10 ?_
    clear h
    intro x9 s10 h
    exact e_i (pc := 13) a hr dX7_sign_13 h

set_option maxRecDepth 100000 in
set_option maxHeartbeats 4000000 in
theorem c_X7_linesOf {l : Launch} {D : va_G} {X : XI} {ad : Nat → Nat} (hinj : adI ad) (hl0 : l.stackTraces = false) {p1 : Int}  {σ : St} {K : Int → Prop} (h : f_X7_linesOf p1 σ K) (sz : Nat) : Met l yX7_linesOf (WW (.code yX7_linesOf cX7_linesOf 4 (some .int))) { frames := 0, cells := 0, slots := 0, locals := 0 } (va_Pc [Value.ref (ad 161), vI p1] (WD D X ad σ sz)) (QI D X ad sz (fun r τ => τ = σ ∧ K r)) 0 0 (AA ad sz) := by
  refine a_start (cc := cX7_linesOf) (maxL := 4) (ret := (some .int)) (own := RX7) [Value.ref (ad 161), vI p1] (by decide) rfl rfl (Nat.le_of_ble_eq_true rfl) hinj hl0 ?_
  intro p e s m below meth c a hr hsz
  subst hsz
  have hts := a.1.2.2.2.2
  have tb : tyc 161 (11, 0) := ⟨by decide, rfl⟩
  have w1 := hts (Cond.fieldLink RX7 83 "SightLegendModel" "lines" "I") (List.mem_cons_of_mem _ (GL_22 _ (by decide +kernel)))
  have w2 : ∀ w ∈ u_ws RX7 TX7 29, w ∈ WW (.code yX7_linesOf cX7_linesOf 4 (some .int)) := fun w h => List.mem_cons_of_mem _ (inlX7 w h)
  have w3 := hts (Cond.fieldLink RX7 29 "SightLegendModel" "line" "[I") (List.mem_cons_of_mem _ (GL_5 _ (by decide +kernel)))
  have w4 : tyc 168 (0, 400) := ty_of (d := 7) (t1 := (0, 400)) (by decide +kernel) rfl tb
  unfold f_X7_linesOf at h
  refine a_sub (ls1 := [(0, Value.ref (ad 161)), (1, vI p1)]) [0, 1] rfl ?_
  refine a_iconst (pc := 0) a dX7_linesOf_0 ?_
  refine a_istore_n (pc := 1) a (ls1 := [(2, vI 0), (0, Value.ref (ad 161)), (1, vI p1)]) dX7_linesOf_1 rfl (by decide) rfl ?_
  refine a_iconst (pc := 2) a dX7_linesOf_2 ?_
  refine a_istore_n (pc := 3) a (ls1 := [(3, vI 0), (2, vI 0), (0, Value.ref (ad 161)), (1, vI p1)]) dX7_linesOf_3 rfl (by decide) rfl ?_
  refine a_sub (ls1 := [(0, Value.ref (ad 161)), (1, vI p1), (2, vI 0), (3, vI 0)]) [2, 3, 1, 0] rfl ?_
  refine g_wl2 (fun x1 x2 => [(0, Value.ref (ad 161)), (1, vI p1), (2, vI x1), (3, vI x2)]) h ?_
  clear h
  intro x1 x2 ag4 hag4 h
  refine a_iload_n (pc := 4) a 3 dX7_linesOf_4 rfl rfl ?_
  refine a_aload_n (pc := 5) a 0 dX7_linesOf_5 rfl rfl ?_
  refine a_getI (pc := 6) a 13 13 rfl tb vc7 w2 w1 (by decide) (by decide) rfl dX7_linesOf_6 ?_
  refine a_icmp_ge (pc := 9) a h.1 h.2.1 dX7_linesOf_9 (tgt := 51) (by decide) (fun hq => ?_) (fun hq => ?_)
  · replace h := h.2.2.1 hq
    clear hq
    refine a_iload_n (pc := 51) a 2 dX7_linesOf_51 rfl rfl ?_
    exact e_i (pc := 52) a hr dX7_linesOf_52 ⟨rfl, h⟩
  · replace h := h.2.2.2 hq
    clear hq
    refine a_iload_n (pc := 12) a 2 dX7_linesOf_12 rfl rfl ?_
    refine a_aload_n (pc := 13) a 0 dX7_linesOf_13 rfl rfl ?_
    refine a_getR (pc := 14) a 9 9 rfl tb vc7 w2 w3 (by decide) (by decide) 7 (q := 168) rfl rfl dX7_linesOf_14 ?_
    refine a_iconst (pc := 17) a dX7_linesOf_17 ?_
    refine a_iload_n (pc := 18) a 3 dX7_linesOf_18 rfl rfl ?_
    refine a_imul (pc := 19) a dX7_linesOf_19 ?_
    refine a_iald (pc := 20) a w4 (by decide) h.1 dX7_linesOf_20 ?_
    replace h := h.2
    refine a_if_ne (pc := 21) a h.1 dX7_linesOf_21 (tgt := 42) (by decide) (fun hq => ?_) (fun hq => ?_)
    · replace h := h.2.1 hq
      clear hq
      refine a_iconst (pc := 42) a dX7_linesOf_42 ?_
      refine a_iadd (pc := 43) a dX7_linesOf_43 ?_
      refine a_nm (fun x3 hx => ?_)
      replace h := h x3 hx
      clear hx
      refine a_istore_n (pc := 44) a (ls1 := [(2, vI x3), (0, Value.ref (ad 161)), (1, vI p1), (3, vI x2)]) dX7_linesOf_44 rfl (by decide) rfl ?_
      refine a_iinc (pc := 45) a (ls1 := [(3, vI (x2 + 1)), (2, vI x3), (0, Value.ref (ad 161)), (1, vI p1)]) 3 dX7_linesOf_45 rfl (by decide) rfl ?_
      refine a_goto (pc := 48) a dX7_linesOf_48 (tgt := 4) (by decide) ?_
      refine a_sub (ls1 := [(0, Value.ref (ad 161)), (1, vI p1), (2, vI x3), (3, vI (x2 + 1))]) [2, 3, 1, 0] rfl ?_
      exact hag4 x3 (x2 + 1) h
    · replace h := h.2.2 hq
      clear hq
      refine a_aload_n (pc := 24) a 0 dX7_linesOf_24 rfl rfl ?_
      refine a_getR (pc := 25) a 9 9 rfl tb vc7 w2 w3 (by decide) (by decide) 7 (q := 168) rfl rfl dX7_linesOf_25 ?_
      refine a_iconst (pc := 28) a dX7_linesOf_28 ?_
      refine a_iload_n (pc := 29) a 3 dX7_linesOf_29 rfl rfl ?_
      refine a_imul (pc := 30) a dX7_linesOf_30 ?_
      refine a_iconst (pc := 31) a dX7_linesOf_31 ?_
      refine a_iadd (pc := 32) a dX7_linesOf_32 ?_
      refine a_iald (pc := 33) a w4 (by decide) h.1 dX7_linesOf_33 ?_
      replace h := h.2
      refine a_iload_n (pc := 34) a 1 dX7_linesOf_34 rfl rfl ?_
      refine a_icmp_ne (pc := 35) a h.1 h.2.1 dX7_linesOf_35 (tgt := 42) (by decide) (fun hq => ?_) (fun hq => ?_)
      · replace h := h.2.2.1 hq
        clear hq
        refine a_iconst (pc := 42) a dX7_linesOf_42 ?_
        refine a_iadd (pc := 43) a dX7_linesOf_43 ?_
        refine a_nm (fun x4 hx => ?_)
        replace h := h x4 hx
        clear hx
        refine a_istore_n (pc := 44) a (ls1 := [(2, vI x4), (0, Value.ref (ad 161)), (1, vI p1), (3, vI x2)]) dX7_linesOf_44 rfl (by decide) rfl ?_
        refine a_iinc (pc := 45) a (ls1 := [(3, vI (x2 + 1)), (2, vI x4), (0, Value.ref (ad 161)), (1, vI p1)]) 3 dX7_linesOf_45 rfl (by decide) rfl ?_
        refine a_goto (pc := 48) a dX7_linesOf_48 (tgt := 4) (by decide) ?_
        refine a_sub (ls1 := [(0, Value.ref (ad 161)), (1, vI p1), (2, vI x4), (3, vI (x2 + 1))]) [2, 3, 1, 0] rfl ?_
        exact hag4 x4 (x2 + 1) h
      · replace h := h.2.2.2 hq
        clear hq
        refine a_iconst (pc := 38) a dX7_linesOf_38 ?_
        refine a_goto (pc := 39) a dX7_linesOf_39 (tgt := 43) (by decide) ?_
        refine a_iadd (pc := 43) a dX7_linesOf_43 ?_
        refine a_nm (fun x5 hx => ?_)
        replace h := h x5 hx
        clear hx
        refine a_istore_n (pc := 44) a (ls1 := [(2, vI x5), (0, Value.ref (ad 161)), (1, vI p1), (3, vI x2)]) dX7_linesOf_44 rfl (by decide) rfl ?_
        refine a_iinc (pc := 45) a (ls1 := [(3, vI (x2 + 1)), (2, vI x5), (0, Value.ref (ad 161)), (1, vI p1)]) 3 dX7_linesOf_45 rfl (by decide) rfl ?_
        refine a_goto (pc := 48) a dX7_linesOf_48 (tgt := 4) (by decide) ?_
        refine a_sub (ls1 := [(0, Value.ref (ad 161)), (1, vI p1), (2, vI x5), (3, vI (x2 + 1))]) [2, 3, 1, 0] rfl ?_
        exact hag4 x5 (x2 + 1) h

set_option maxRecDepth 100000 in
set_option maxHeartbeats 4000000 in
theorem c_X7_kindOf {l : Launch} {D : va_G} {X : XI} {ad : Nat → Nat} (hinj : adI ad) (hl0 : l.stackTraces = false) {p1 : Int} {p2 : Int}  {σ : St} {K : Int → Prop} (h : f_X7_kindOf p1 p2 σ K) (sz : Nat) : Met l yX7_kindOf (WW (.code yX7_kindOf cX7_kindOf 4 (some .int))) { frames := 3, cells := 0, slots := 0, locals := 71 } (va_Pc [Value.ref (ad 161), vI p1, vI p2] (WD D X ad σ sz)) (QI D X ad sz (fun r τ => τ = σ ∧ K r)) 0 0 (AA ad sz) := by
  refine a_start (cc := cX7_kindOf) (maxL := 4) (ret := (some .int)) (own := RX7) [Value.ref (ad 161), vI p1, vI p2] (by decide) rfl rfl (Nat.le_of_ble_eq_true rfl) hinj hl0 ?_
  intro p e s m below meth c a hr hsz
  subst hsz
  have hts := a.1.2.2.2.2
  have tb : tyc 161 (11, 0) := ⟨by decide, rfl⟩
  have w1 := hts (Cond.fieldLink RX7 7 "SightLegendModel" "s" "[I") (List.mem_cons_of_mem _ (GL_5 _ (by decide +kernel)))
  have w2 : ∀ w ∈ u_ws RX7 TX7 29, w ∈ WW (.code yX7_kindOf cX7_kindOf 4 (some .int)) := fun w h => List.mem_cons_of_mem _ (inlX7 w h)
  have w3 : tyc 162 (0, 311) := ty_of (d := 1) (t1 := (0, 311)) (by decide +kernel) rfl tb
  unfold f_X7_kindOf at h
  refine a_sub (ls1 := [(0, Value.ref (ad 161)), (1, vI p1), (2, vI p2)]) [0, 1, 2] rfl ?_
  refine a_bipush (pc := 0) a dX7_kindOf_0 (by decide) ?_
  refine a_bipush (pc := 2) a dX7_kindOf_2 (by decide) ?_
  refine a_iload_n (pc := 4) a 1 dX7_kindOf_4 rfl rfl ?_
  refine a_imul (pc := 5) a dX7_kindOf_5 ?_
  refine a_iadd (pc := 6) a dX7_kindOf_6 ?_
  refine a_nm (fun x1 hx => ?_)
  replace h := h x1 hx
  clear hx
  refine a_istore_n (pc := 7) a (ls1 := [(3, vI x1), (0, Value.ref (ad 161)), (1, vI p1), (2, vI p2)]) dX7_kindOf_7 rfl (by decide) rfl ?_
  refine a_iload_n (pc := 8) a 3 dX7_kindOf_8 rfl rfl ?_
  refine a_iconst (pc := 9) a dX7_kindOf_9 ?_
  refine a_icmp_ge (pc := 10) a h.1 ⟨by decide, by decide⟩ dX7_kindOf_10 (tgt := 22) (by decide) (fun hq => ?_) (fun hq => ?_)
  · replace h := h.2.1 hq
    clear hq
    refine a_iload_n (pc := 22) a 3 dX7_kindOf_22 rfl rfl ?_
    refine a_bipush (pc := 23) a dX7_kindOf_23 (by decide) ?_
    refine a_icmp_ge (pc := 25) a h.1 ⟨by decide, by decide⟩ dX7_kindOf_25 (tgt := 55) (by decide) (fun hq => ?_) (fun hq => ?_)
    · replace h := h.2.1 hq
      clear hq
      refine a_iload_n (pc := 55) a 3 dX7_kindOf_55 rfl rfl ?_
      refine a_bipush (pc := 56) a dX7_kindOf_56 (by decide) ?_
      refine a_icmp_ne (pc := 58) a h.1 ⟨by decide, by decide⟩ dX7_kindOf_58 (tgt := 69) (by decide) (fun hq => ?_) (fun hq => ?_)
      · replace h := h.2.1 hq
        clear hq
        refine a_aload_n (pc := 69) a 1 dX7_kindOf_69 rfl rfl ?_
        refine a_iload_n (pc := 70) a 2 dX7_kindOf_70 rfl rfl ?_
        refine a_iconst (pc := 71) a dX7_kindOf_71 ?_
        refine a_iconst (pc := 72) a dX7_kindOf_72 ?_
        refine a_cvi (pc := 73) a (As := [vI p1, vI 0, vI 5]) (rest := []) tb vc7 (fun sz => c_X7_signsOf hinj hl0  h sz) (cwV 3 hts (gl_V (GL_23 _ (by decide +kernel)) (GL_23 _ (by decide +kernel)) (GL_23 _ (by decide +kernel)) (GL_1 _ (by decide +kernel)) (GL_23 _ (by decide +kernel))) rfl rfl rfl (by decide +kernel) ⟨Nat.le_of_ble_eq_true rfl, Nat.le_of_ble_eq_true rfl⟩) rfl rfl (Nat.le_of_ble_eq_true rfl) ⟨Nat.le_of_ble_eq_true rfl, Nat.le_of_ble_eq_true rfl⟩ dX7_kindOf_73 ?_
        rintro x2 s9 ⟨hs9, h9⟩
        subst s9
        replace h := h9
        clear h9
        exact e_i (pc := 76) a hr dX7_kindOf_76 ⟨rfl, h⟩
      · replace h := h.2.2 hq
        clear hq
        refine a_aload_n (pc := 61) a 1 dX7_kindOf_61 rfl rfl ?_
        refine a_iload_n (pc := 62) a 2 dX7_kindOf_62 rfl rfl ?_
        refine a_cvi (pc := 63) a (As := [vI p1]) (rest := []) tb vc7 (fun sz => c_X7_linesOf hinj hl0  h sz) (cwV 1 hts (gl_V (GL_28 _ (by decide +kernel)) (GL_28 _ (by decide +kernel)) (GL_28 _ (by decide +kernel)) (GL_1 _ (by decide +kernel)) (GL_28 _ (by decide +kernel))) rfl rfl rfl (by decide +kernel) ⟨Nat.le_of_ble_eq_true rfl, Nat.le_of_ble_eq_true rfl⟩) rfl rfl (Nat.le_of_ble_eq_true rfl) ⟨Nat.le_of_ble_eq_true rfl, Nat.le_of_ble_eq_true rfl⟩ dX7_kindOf_63 ?_
        rintro x3 s9 ⟨hs9, h9⟩
        subst s9
        replace h := h9
        clear h9
        refine a_goto (pc := 66) a dX7_kindOf_66 (tgt := 76) (by decide) ?_
        exact e_i (pc := 76) a hr dX7_kindOf_76 ⟨rfl, h⟩
    · replace h := h.2.2 hq
      clear hq
      refine a_iload_n (pc := 28) a 3 dX7_kindOf_28 rfl rfl ?_
      refine a_iconst (pc := 29) a dX7_kindOf_29 ?_
      refine a_isub (pc := 30) a dX7_kindOf_30 ?_
      refine a_aload_n (pc := 31) a 1 dX7_kindOf_31 rfl rfl ?_
      refine a_getR (pc := 32) a 0 0 rfl tb vc7 w2 w1 (by decide) (by decide) 1 (q := 162) rfl rfl dX7_kindOf_32 ?_
      refine a_iload_n (pc := 35) a 0 dX7_kindOf_35 rfl rfl ?_
      refine a_iconst (pc := 36) a dX7_kindOf_36 ?_
      refine a_iadd (pc := 37) a dX7_kindOf_37 ?_
      refine a_iald (pc := 38) a w3 (by decide) h.1 dX7_kindOf_38 ?_
      replace h := h.2
      refine a_icmp_ge (pc := 39) a h.1 h.2.1 dX7_kindOf_39 (tgt := 53) (by decide) (fun hq => ?_) (fun hq => ?_)
      · replace h := h.2.2.1 hq
        clear hq
        refine a_iconst (pc := 53) a dX7_kindOf_53 ?_
        exact e_i (pc := 54) a hr dX7_kindOf_54 ⟨rfl, h⟩
      · replace h := h.2.2.2 hq
        clear hq
        refine a_aload_n (pc := 42) a 1 dX7_kindOf_42 rfl rfl ?_
        refine a_getR (pc := 43) a 0 0 rfl tb vc7 w2 w1 (by decide) (by decide) 1 (q := 162) rfl rfl dX7_kindOf_43 ?_
        refine a_iload_n (pc := 46) a 0 dX7_kindOf_46 rfl rfl ?_
        refine a_iload_n (pc := 47) a 3 dX7_kindOf_47 rfl rfl ?_
        refine a_iadd (pc := 48) a dX7_kindOf_48 ?_
        refine a_iald (pc := 49) a w3 (by decide) h.1 dX7_kindOf_49 ?_
        replace h := h.2
        refine a_goto (pc := 50) a dX7_kindOf_50 (tgt := 54) (by decide) ?_
        exact e_i (pc := 54) a hr dX7_kindOf_54 ⟨rfl, h⟩
  · replace h := h.2.2 hq
    clear hq
    refine a_aload_n (pc := 13) a 1 dX7_kindOf_13 rfl rfl ?_
    refine a_getR (pc := 14) a 0 0 rfl tb vc7 w2 w1 (by decide) (by decide) 1 (q := 162) rfl rfl dX7_kindOf_14 ?_
    refine a_iload_n (pc := 17) a 0 dX7_kindOf_17 rfl rfl ?_
    refine a_iload_n (pc := 18) a 3 dX7_kindOf_18 rfl rfl ?_
    refine a_iadd (pc := 19) a dX7_kindOf_19 ?_
    refine a_iald (pc := 20) a w3 (by decide) h.1 dX7_kindOf_20 ?_
    replace h := h.2
    exact e_i (pc := 21) a hr dX7_kindOf_21 ⟨rfl, h⟩

set_option maxRecDepth 100000 in
set_option maxHeartbeats 4000000 in
theorem c_X7_kind {l : Launch} {D : va_G} {X : XI} {ad : Nat → Nat} (hinj : adI ad) (hl0 : l.stackTraces = false) {p1 : Int} {p2 : Int}  {σ : St} {K : Int → St → Prop} (h : f_X7_kind p1 p2 σ K) (sz : Nat) : Met l yX7_kind (WW (.code yX7_kind cX7_kind 3 (some .int))) { frames := 8, cells := 0, slots := 0, locals := 182 } (va_Pc [Value.ref (ad 161), vI p1, vI p2] (WD D X ad σ sz)) (QI D X ad sz K) 0 0 (AA ad sz) := by
  refine a_start (cc := cX7_kind) (maxL := 3) (ret := (some .int)) (own := RX7) [Value.ref (ad 161), vI p1, vI p2] (by decide) rfl rfl (Nat.le_of_ble_eq_true rfl) hinj hl0 ?_
  intro p e s m below meth c a hr hsz
  subst hsz
  have hts := a.1.2.2.2.2
  have tb : tyc 161 (11, 0) := ⟨by decide, rfl⟩
  unfold f_X7_kind at h
  refine a_sub (ls1 := [(0, Value.ref (ad 161)), (1, vI p1), (2, vI p2)]) [0, 1, 2] rfl ?_
  refine a_iload_n (pc := 0) a 1 dX7_kind_0 rfl rfl ?_
  refine a_csi (pc := 1) a (As := [vI p1]) (rest := []) (fun sz => c_X7_isKind hinj hl0  h sz) (va_cwS 1 hts (gl_S (GL_7 _ (by decide +kernel)) (GL_7 _ (by decide +kernel)) (GL_1 _ (by decide +kernel)) (GL_8 _ (by decide +kernel))) rfl rfl rfl (by decide +kernel) ⟨Nat.le_of_ble_eq_true rfl, Nat.le_of_ble_eq_true rfl⟩) rfl rfl (Nat.le_of_ble_eq_true rfl) ⟨Nat.le_of_ble_eq_true rfl, Nat.le_of_ble_eq_true rfl⟩ dX7_kind_1 ?_
  rintro x1 s9 ⟨hs9, h9⟩
  subst s9
  replace h := h9
  clear h9
  refine a_if_ne (pc := 4) a h.1 dX7_kind_4 (tgt := 13) (by decide) (fun hq => ?_) (fun hq => ?_)
  · replace h := h.2.1 hq
    clear hq
    refine a_iload_n (pc := 13) a 2 dX7_kind_13 rfl rfl ?_
    refine a_iconst (pc := 14) a dX7_kind_14 ?_
    refine a_bipush (pc := 15) a dX7_kind_15 (by decide) ?_
    refine a_csi (pc := 17) a (As := [vI p2, vI 0, vI 9]) (rest := []) (fun sz => c_X7_in hinj hl0  h sz) (va_cwS 3 hts (gl_S (GL_8 _ (by decide +kernel)) (GL_8 _ (by decide +kernel)) (GL_1 _ (by decide +kernel)) (GL_8 _ (by decide +kernel))) rfl rfl rfl (by decide +kernel) ⟨Nat.le_of_ble_eq_true rfl, Nat.le_of_ble_eq_true rfl⟩) rfl rfl (Nat.le_of_ble_eq_true rfl) ⟨Nat.le_of_ble_eq_true rfl, Nat.le_of_ble_eq_true rfl⟩ dX7_kind_17 ?_
    rintro x2 s9 ⟨hs9, h9⟩
    subst s9
    replace h := h9
    clear h9
    refine a_if_ne (pc := 20) a h.1 dX7_kind_20 (tgt := 29) (by decide) (fun hq => ?_) (fun hq => ?_)
    · replace h := h.2.1 hq
      clear hq
      refine a_aload_n (pc := 29) a 0 dX7_kind_29 rfl rfl ?_
      refine a_cvv (pc := 30) a (As := []) (rest := []) tb vc7 (fun sz => c_X7_makes hinj hl0  h sz) (cwV 0 hts (gl_V (GL_21 _ (by decide +kernel)) (GL_21 _ (by decide +kernel)) (GL_22 _ (by decide +kernel)) (GL_1 _ (by decide +kernel)) (GL_22 _ (by decide +kernel))) rfl rfl rfl (by decide +kernel) ⟨Nat.le_of_ble_eq_true rfl, Nat.le_of_ble_eq_true rfl⟩) rfl rfl (Nat.le_of_ble_eq_true rfl) ⟨Nat.le_of_ble_eq_true rfl, Nat.le_of_ble_eq_true rfl⟩ dX7_kind_30 ?_
      clear h
      intro s3 h
      refine a_aload_n (pc := 33) a 0 dX7_kind_33 rfl rfl ?_
      refine a_aload_n (pc := 34) a 0 dX7_kind_34 rfl rfl ?_
      refine a_iload_n (pc := 35) a 1 dX7_kind_35 rfl rfl ?_
      refine a_iload_n (pc := 36) a 2 dX7_kind_36 rfl rfl ?_
      refine a_cvi (pc := 37) a (As := [vI p1, vI p2]) (rest := [Value.ref (ad 161)]) tb vc7 (fun sz => c_X7_kindOf hinj hl0  h sz) (cwV 2 hts (gl_V (GL_28 _ (by decide +kernel)) (GL_28 _ (by decide +kernel)) (GL_28 _ (by decide +kernel)) (GL_1 _ (by decide +kernel)) (GL_28 _ (by decide +kernel))) rfl rfl rfl (by decide +kernel) ⟨Nat.le_of_ble_eq_true rfl, Nat.le_of_ble_eq_true rfl⟩) rfl rfl (Nat.le_of_ble_eq_true rfl) ⟨Nat.le_of_ble_eq_true rfl, Nat.le_of_ble_eq_true rfl⟩ dX7_kind_37 ?_
      rintro x4 s9 ⟨hs9, h9⟩
      subst s9
      replace h := h9
      clear h9
      refine a_cvi (pc := 40) a (As := [vI x4]) (rest := []) tb vc7 (fun sz => c_X7_tells hinj hl0  h sz) (cwV 1 hts (gl_V (GL_8 _ (by decide +kernel)) (GL_8 _ (by decide +kernel)) (GL_8 _ (by decide +kernel)) (GL_1 _ (by decide +kernel)) (GL_9 _ (by decide +kernel))) rfl rfl rfl (by decide +kernel) ⟨Nat.le_of_ble_eq_true rfl, Nat.le_of_ble_eq_true rfl⟩) rfl rfl (Nat.le_of_ble_eq_true rfl) ⟨Nat.le_of_ble_eq_true rfl, Nat.le_of_ble_eq_true rfl⟩ dX7_kind_40 ?_
      clear h
      intro x5 s6 h
      exact e_i (pc := 43) a hr dX7_kind_43 h
    · replace h := h.2.2 hq
      clear hq
      refine a_aload_n (pc := 23) a 0 dX7_kind_23 rfl rfl ?_
      refine a_iconst (pc := 24) a dX7_kind_24 ?_
      refine a_cvi (pc := 25) a (As := [vI 2]) (rest := []) tb vc7 (fun sz => c_X7_fails hinj hl0  h sz) (cwV 1 hts (gl_V (GL_8 _ (by decide +kernel)) (GL_8 _ (by decide +kernel)) (GL_8 _ (by decide +kernel)) (GL_1 _ (by decide +kernel)) (GL_8 _ (by decide +kernel))) rfl rfl rfl (by decide +kernel) ⟨Nat.le_of_ble_eq_true rfl, Nat.le_of_ble_eq_true rfl⟩) rfl rfl (Nat.le_of_ble_eq_true rfl) ⟨Nat.le_of_ble_eq_true rfl, Nat.le_of_ble_eq_true rfl⟩ dX7_kind_25 ?_
      clear h
      intro x7 s8 h
      exact e_i (pc := 28) a hr dX7_kind_28 h
  · replace h := h.2.2 hq
    clear hq
    refine a_aload_n (pc := 7) a 0 dX7_kind_7 rfl rfl ?_
    refine a_iconst (pc := 8) a dX7_kind_8 ?_
    refine a_cvi (pc := 9) a (As := [vI 1]) (rest := []) tb vc7 (fun sz => c_X7_fails hinj hl0  h sz) (cwV 1 hts (gl_V (GL_8 _ (by decide +kernel)) (GL_8 _ (by decide +kernel)) (GL_8 _ (by decide +kernel)) (GL_1 _ (by decide +kernel)) (GL_8 _ (by decide +kernel))) rfl rfl rfl (by decide +kernel) ⟨Nat.le_of_ble_eq_true rfl, Nat.le_of_ble_eq_true rfl⟩) rfl rfl (Nat.le_of_ble_eq_true rfl) ⟨Nat.le_of_ble_eq_true rfl, Nat.le_of_ble_eq_true rfl⟩ dX7_kind_9 ?_
    clear h
    intro x9 s10 h
    exact e_i (pc := 12) a hr dX7_kind_12 h

set_option maxRecDepth 100000 in
set_option maxHeartbeats 4000000 in
theorem c_X7_lines {l : Launch} {D : va_G} {X : XI} {ad : Nat → Nat} (hinj : adI ad) (hl0 : l.stackTraces = false)   {σ : St} {K : Int → St → Prop} (h : f_X7_lines σ K) (sz : Nat) : Met l yX7_lines (WW (.code yX7_lines cX7_lines 1 (some .int))) { frames := 8, cells := 0, slots := 0, locals := 182 } (va_Pc [Value.ref (ad 161)] (WD D X ad σ sz)) (QI D X ad sz K) 0 0 (AA ad sz) := by
  refine a_start (cc := cX7_lines) (maxL := 1) (ret := (some .int)) (own := RX7) [Value.ref (ad 161)] (by decide) rfl rfl (Nat.le_of_ble_eq_true rfl) hinj hl0 ?_
  intro p e s m below meth c a hr hsz
  subst hsz
  have hts := a.1.2.2.2.2
  have tb : tyc 161 (11, 0) := ⟨by decide, rfl⟩
  have w1 := hts (Cond.fieldLink RX7 83 "SightLegendModel" "lines" "I") (List.mem_cons_of_mem _ (GL_22 _ (by decide +kernel)))
  have w2 : ∀ w ∈ u_ws RX7 TX7 29, w ∈ WW (.code yX7_lines cX7_lines 1 (some .int)) := fun w h => List.mem_cons_of_mem _ (inlX7 w h)
  unfold f_X7_lines at h
  refine a_sub (ls1 := [(0, Value.ref (ad 161))]) [0] rfl ?_
  refine a_aload_n (pc := 0) a 0 dX7_lines_0 rfl rfl ?_
  refine a_cvv (pc := 1) a (As := []) (rest := []) tb vc7 (fun sz => c_X7_makes hinj hl0  h sz) (cwV 0 hts (gl_V (GL_21 _ (by decide +kernel)) (GL_21 _ (by decide +kernel)) (GL_22 _ (by decide +kernel)) (GL_1 _ (by decide +kernel)) (GL_22 _ (by decide +kernel))) rfl rfl rfl (by decide +kernel) ⟨Nat.le_of_ble_eq_true rfl, Nat.le_of_ble_eq_true rfl⟩) rfl rfl (Nat.le_of_ble_eq_true rfl) ⟨Nat.le_of_ble_eq_true rfl, Nat.le_of_ble_eq_true rfl⟩ dX7_lines_1 ?_
  clear h
  intro s1 h
  refine a_aload_n (pc := 4) a 0 dX7_lines_4 rfl rfl ?_
  refine a_aload_n (pc := 5) a 0 dX7_lines_5 rfl rfl ?_
  refine a_getI (pc := 6) a 13 13 rfl tb vc7 w2 w1 (by decide) (by decide) rfl dX7_lines_6 ?_
  refine a_cvi (pc := 9) a (As := [vI (s1 161 13)]) (rest := []) tb vc7 (fun sz => c_X7_tells hinj hl0  h sz) (cwV 1 hts (gl_V (GL_8 _ (by decide +kernel)) (GL_8 _ (by decide +kernel)) (GL_8 _ (by decide +kernel)) (GL_1 _ (by decide +kernel)) (GL_9 _ (by decide +kernel))) rfl rfl rfl (by decide +kernel) ⟨Nat.le_of_ble_eq_true rfl, Nat.le_of_ble_eq_true rfl⟩) rfl rfl (Nat.le_of_ble_eq_true rfl) ⟨Nat.le_of_ble_eq_true rfl, Nat.le_of_ble_eq_true rfl⟩ dX7_lines_9 ?_
  clear h
  intro x2 s3 h
  exact e_i (pc := 12) a hr dX7_lines_12 h

set_option maxRecDepth 100000 in
set_option maxHeartbeats 4000000 in
theorem c_X7_lineOf {l : Launch} {D : va_G} {X : XI} {ad : Nat → Nat} (hinj : adI ad) (hl0 : l.stackTraces = false) {p1 : Int} {p2 : Int}  {σ : St} {K : Int → Prop} (h : f_X7_lineOf p1 p2 σ K) (sz : Nat) : Met l yX7_lineOf (WW (.code yX7_lineOf cX7_lineOf 5 (some .int))) { frames := 3, cells := 0, slots := 0, locals := 68 } (va_Pc [Value.ref (ad 161), vI p1, vI p2] (WD D X ad σ sz)) (QI D X ad sz (fun r τ => τ = σ ∧ K r)) 0 0 (AA ad sz) := by
  refine a_start (cc := cX7_lineOf) (maxL := 5) (ret := (some .int)) (own := RX7) [Value.ref (ad 161), vI p1, vI p2] (by decide) rfl rfl (Nat.le_of_ble_eq_true rfl) hinj hl0 ?_
  intro p e s m below meth c a hr hsz
  subst hsz
  have hts := a.1.2.2.2.2
  have tb : tyc 161 (11, 0) := ⟨by decide, rfl⟩
  have w1 := hts (Cond.fieldLink RX7 7 "SightLegendModel" "s" "[I") (List.mem_cons_of_mem _ (GL_5 _ (by decide +kernel)))
  have w2 : ∀ w ∈ u_ws RX7 TX7 29, w ∈ WW (.code yX7_lineOf cX7_lineOf 5 (some .int)) := fun w h => List.mem_cons_of_mem _ (inlX7 w h)
  have w3 : tyc 162 (0, 311) := ty_of (d := 1) (t1 := (0, 311)) (by decide +kernel) rfl tb
  have w4 := hts (Cond.fieldLink RX7 38 "SightLegendModel" "placeOf" "[I") (List.mem_cons_of_mem _ (GL_5 _ (by decide +kernel)))
  have w5 : tyc 171 (0, 80) := ty_of (d := 10) (t1 := (0, 80)) (by decide +kernel) rfl tb
  have w6 := hts (Cond.fieldLink RX7 35 "SightLegendModel" "columnOf" "[I") (List.mem_cons_of_mem _ (GL_5 _ (by decide +kernel)))
  have w7 : tyc 170 (0, 80) := ty_of (d := 9) (t1 := (0, 80)) (by decide +kernel) rfl tb
  have w8 := hts (Cond.fieldLink RX7 29 "SightLegendModel" "line" "[I") (List.mem_cons_of_mem _ (GL_5 _ (by decide +kernel)))
  have w9 : tyc 168 (0, 400) := ty_of (d := 7) (t1 := (0, 400)) (by decide +kernel) rfl tb
  unfold f_X7_lineOf at h
  refine a_sub (ls1 := [(0, Value.ref (ad 161)), (1, vI p1), (2, vI p2)]) [0, 1, 2] rfl ?_
  refine a_iload_n (pc := 0) a 2 dX7_lineOf_0 rfl rfl ?_
  refine a_iconst (pc := 1) a dX7_lineOf_1 ?_
  refine a_icmp_ge (pc := 2) a h.1 ⟨by decide, by decide⟩ dX7_lineOf_2 (tgt := 16) (by decide) (fun hq => ?_) (fun hq => ?_)
  · replace h := h.2.1 hq
    clear hq
    refine a_iload_n (pc := 16) a 2 dX7_lineOf_16 rfl rfl ?_
    refine a_iconst (pc := 17) a dX7_lineOf_17 ?_
    refine a_icmp_le (pc := 18) a h.1 ⟨by decide, by decide⟩ dX7_lineOf_18 (tgt := 43) (by decide) (fun hq => ?_) (fun hq => ?_)
    · replace h := h.2.1 hq
      clear hq
      refine a_iconst (pc := 43) a dX7_lineOf_43 ?_
      refine a_istore_n (pc := 44) a (ls1 := [(3, vI 0), (0, Value.ref (ad 161)), (1, vI p1), (2, vI p2)]) dX7_lineOf_44 rfl (by decide) rfl ?_
      refine a_iconst (pc := 45) a dX7_lineOf_45 ?_
      refine a_istore (pc := 46) a (ls1 := [(4, vI 0), (3, vI 0), (0, Value.ref (ad 161)), (1, vI p1), (2, vI p2)]) dX7_lineOf_46 (by decide) rfl ?_
      refine a_sub (ls1 := [(0, Value.ref (ad 161)), (1, vI p1), (3, vI 0), (4, vI 0)]) [2, 3, 1, 0] rfl ?_
      refine g_wl2 (fun x1 x2 => [(0, Value.ref (ad 161)), (1, vI p1), (3, vI x1), (4, vI x2)]) h ?_
      clear h
      intro x1 x2 ag48 hag48 h
      refine a_iload (pc := 48) a 3 dX7_lineOf_48 rfl ?_
      refine a_aload_n (pc := 50) a 0 dX7_lineOf_50 rfl rfl ?_
      refine a_getR (pc := 51) a 0 0 rfl tb vc7 w2 w1 (by decide) (by decide) 1 (q := 162) rfl rfl dX7_lineOf_51 ?_
      refine a_bipush (pc := 54) a dX7_lineOf_54 (by decide) ?_
      refine a_iald (pc := 56) a w3 (by decide) (by decide) dX7_lineOf_56 ?_
      refine a_icmp_ge (pc := 57) a h.1 h.2.1 dX7_lineOf_57 (tgt := 84) (by decide) (fun hq => ?_) (fun hq => ?_)
      · replace h := h.2.2.1 hq
        clear hq
        refine a_iload_n (pc := 84) a 2 dX7_lineOf_84 rfl rfl ?_
        exact e_i (pc := 85) a hr dX7_lineOf_85 ⟨rfl, h⟩
      · replace h := h.2.2.2 hq
        clear hq
        refine a_iload_n (pc := 60) a 2 dX7_lineOf_60 rfl rfl ?_
        refine a_aload_n (pc := 61) a 0 dX7_lineOf_61 rfl rfl ?_
        refine a_iload_n (pc := 62) a 1 dX7_lineOf_62 rfl rfl ?_
        refine a_iload (pc := 63) a 3 dX7_lineOf_63 rfl ?_
        refine a_cvi (pc := 65) a (As := [vI p1, vI x2]) (rest := [vI x1]) tb vc7 (fun sz => c_X7_standsFor hinj hl0  h sz) (cwV 2 hts (gl_V (GL_27 _ (by decide +kernel)) (GL_27 _ (by decide +kernel)) (GL_27 _ (by decide +kernel)) (GL_1 _ (by decide +kernel)) (GL_27 _ (by decide +kernel))) rfl rfl rfl (by decide +kernel) ⟨Nat.le_of_ble_eq_true rfl, Nat.le_of_ble_eq_true rfl⟩) rfl rfl (Nat.le_of_ble_eq_true rfl) ⟨Nat.le_of_ble_eq_true rfl, Nat.le_of_ble_eq_true rfl⟩ dX7_lineOf_65 ?_
        rintro x3 s9 ⟨hs9, h9⟩
        subst s9
        replace h := h9
        clear h9
        refine a_if_eq (pc := 68) a h.1 dX7_lineOf_68 (tgt := 75) (by decide) (fun hq => ?_) (fun hq => ?_)
        · replace h := h.2.1 hq
          clear hq
          refine a_iconst (pc := 75) a dX7_lineOf_75 ?_
          refine a_iadd (pc := 76) a dX7_lineOf_76 ?_
          refine a_nm (fun x4 hx => ?_)
          replace h := h x4 hx
          clear hx
          refine a_istore_n (pc := 77) a (ls1 := [(3, vI x4), (0, Value.ref (ad 161)), (1, vI p1), (4, vI x2)]) dX7_lineOf_77 rfl (by decide) rfl ?_
          refine a_iinc (pc := 78) a (ls1 := [(4, vI (x2 + 1)), (3, vI x4), (0, Value.ref (ad 161)), (1, vI p1)]) 3 dX7_lineOf_78 rfl (by decide) rfl ?_
          refine a_goto (pc := 81) a dX7_lineOf_81 (tgt := 48) (by decide) ?_
          refine a_sub (ls1 := [(0, Value.ref (ad 161)), (1, vI p1), (3, vI x4), (4, vI (x2 + 1))]) [2, 3, 1, 0] rfl ?_
          exact hag48 x4 (x2 + 1) h
        · replace h := h.2.2 hq
          clear hq
          refine a_iconst (pc := 71) a dX7_lineOf_71 ?_
          refine a_goto (pc := 72) a dX7_lineOf_72 (tgt := 76) (by decide) ?_
          refine a_iadd (pc := 76) a dX7_lineOf_76 ?_
          refine a_nm (fun x5 hx => ?_)
          replace h := h x5 hx
          clear hx
          refine a_istore_n (pc := 77) a (ls1 := [(3, vI x5), (0, Value.ref (ad 161)), (1, vI p1), (4, vI x2)]) dX7_lineOf_77 rfl (by decide) rfl ?_
          refine a_iinc (pc := 78) a (ls1 := [(4, vI (x2 + 1)), (3, vI x5), (0, Value.ref (ad 161)), (1, vI p1)]) 3 dX7_lineOf_78 rfl (by decide) rfl ?_
          refine a_goto (pc := 81) a dX7_lineOf_81 (tgt := 48) (by decide) ?_
          refine a_sub (ls1 := [(0, Value.ref (ad 161)), (1, vI p1), (3, vI x5), (4, vI (x2 + 1))]) [2, 3, 1, 0] rfl ?_
          exact hag48 x5 (x2 + 1) h
    · replace h := h.2.2 hq
      clear hq
      refine a_iload_n (pc := 21) a 2 dX7_lineOf_21 rfl rfl ?_
      refine a_bipush (pc := 22) a dX7_lineOf_22 (by decide) ?_
      refine a_icmp_ne (pc := 24) a h.1 ⟨by decide, by decide⟩ dX7_lineOf_24 (tgt := 36) (by decide) (fun hq => ?_) (fun hq => ?_)
      · replace h := h.2.1 hq
        clear hq
        refine a_aload_n (pc := 36) a 0 dX7_lineOf_36 rfl rfl ?_
        refine a_getR (pc := 37) a 12 12 rfl tb vc7 w2 w4 (by decide) (by decide) 10 (q := 171) rfl rfl dX7_lineOf_37 ?_
        refine a_iload_n (pc := 40) a 1 dX7_lineOf_40 rfl rfl ?_
        refine a_iald (pc := 41) a w5 (by decide) h.1 dX7_lineOf_41 ?_
        replace h := h.2
        exact e_i (pc := 42) a hr dX7_lineOf_42 ⟨rfl, h⟩
      · replace h := h.2.2 hq
        clear hq
        refine a_aload_n (pc := 27) a 0 dX7_lineOf_27 rfl rfl ?_
        refine a_getR (pc := 28) a 11 11 rfl tb vc7 w2 w6 (by decide) (by decide) 9 (q := 170) rfl rfl dX7_lineOf_28 ?_
        refine a_iload_n (pc := 31) a 1 dX7_lineOf_31 rfl rfl ?_
        refine a_iald (pc := 32) a w7 (by decide) h.1 dX7_lineOf_32 ?_
        replace h := h.2
        refine a_goto (pc := 33) a dX7_lineOf_33 (tgt := 42) (by decide) ?_
        exact e_i (pc := 42) a hr dX7_lineOf_42 ⟨rfl, h⟩
  · replace h := h.2.2 hq
    clear hq
    refine a_aload_n (pc := 5) a 0 dX7_lineOf_5 rfl rfl ?_
    refine a_getR (pc := 6) a 9 9 rfl tb vc7 w2 w8 (by decide) (by decide) 7 (q := 168) rfl rfl dX7_lineOf_6 ?_
    refine a_iconst (pc := 9) a dX7_lineOf_9 ?_
    refine a_iload_n (pc := 10) a 1 dX7_lineOf_10 rfl rfl ?_
    refine a_imul (pc := 11) a dX7_lineOf_11 ?_
    refine a_iload_n (pc := 12) a 2 dX7_lineOf_12 rfl rfl ?_
    refine a_iadd (pc := 13) a dX7_lineOf_13 ?_
    refine a_iald (pc := 14) a w9 (by decide) h.1 dX7_lineOf_14 ?_
    replace h := h.2
    exact e_i (pc := 15) a hr dX7_lineOf_15 ⟨rfl, h⟩

set_option maxRecDepth 100000 in
set_option maxHeartbeats 4000000 in
theorem c_X7_line {l : Launch} {D : va_G} {X : XI} {ad : Nat → Nat} (hinj : adI ad) (hl0 : l.stackTraces = false) {p1 : Int} {p2 : Int}  {σ : St} {K : Int → St → Prop} (h : f_X7_line p1 p2 σ K) (sz : Nat) : Met l yX7_line (WW (.code yX7_line cX7_line 3 (some .int))) { frames := 8, cells := 0, slots := 0, locals := 182 } (va_Pc [Value.ref (ad 161), vI p1, vI p2] (WD D X ad σ sz)) (QI D X ad sz K) 0 0 (AA ad sz) := by
  refine a_start (cc := cX7_line) (maxL := 3) (ret := (some .int)) (own := RX7) [Value.ref (ad 161), vI p1, vI p2] (by decide) rfl rfl (Nat.le_of_ble_eq_true rfl) hinj hl0 ?_
  intro p e s m below meth c a hr hsz
  subst hsz
  have hts := a.1.2.2.2.2
  have tb : tyc 161 (11, 0) := ⟨by decide, rfl⟩
  have w1 := hts (Cond.fieldLink RX7 83 "SightLegendModel" "lines" "I") (List.mem_cons_of_mem _ (GL_22 _ (by decide +kernel)))
  have w2 : ∀ w ∈ u_ws RX7 TX7 29, w ∈ WW (.code yX7_line cX7_line 3 (some .int)) := fun w h => List.mem_cons_of_mem _ (inlX7 w h)
  unfold f_X7_line at h
  refine a_sub (ls1 := [(0, Value.ref (ad 161)), (1, vI p1), (2, vI p2)]) [0, 1, 2] rfl ?_
  refine a_aload_n (pc := 0) a 0 dX7_line_0 rfl rfl ?_
  refine a_cvv (pc := 1) a (As := []) (rest := []) tb vc7 (fun sz => c_X7_makes hinj hl0  h sz) (cwV 0 hts (gl_V (GL_21 _ (by decide +kernel)) (GL_21 _ (by decide +kernel)) (GL_22 _ (by decide +kernel)) (GL_1 _ (by decide +kernel)) (GL_22 _ (by decide +kernel))) rfl rfl rfl (by decide +kernel) ⟨Nat.le_of_ble_eq_true rfl, Nat.le_of_ble_eq_true rfl⟩) rfl rfl (Nat.le_of_ble_eq_true rfl) ⟨Nat.le_of_ble_eq_true rfl, Nat.le_of_ble_eq_true rfl⟩ dX7_line_1 ?_
  clear h
  intro s1 h
  refine a_iload_n (pc := 4) a 1 dX7_line_4 rfl rfl ?_
  refine a_if_lt (pc := 5) a h.1 dX7_line_5 (tgt := 16) (by decide) (fun hq => ?_) (fun hq => ?_)
  · replace h := h.2.1 hq
    clear hq
    refine a_aload_n (pc := 16) a 0 dX7_line_16 rfl rfl ?_
    refine a_iconst (pc := 17) a dX7_line_17 ?_
    refine a_cvi (pc := 18) a (As := [vI 1]) (rest := []) tb vc7 (fun sz => c_X7_fails hinj hl0  h sz) (cwV 1 hts (gl_V (GL_8 _ (by decide +kernel)) (GL_8 _ (by decide +kernel)) (GL_8 _ (by decide +kernel)) (GL_1 _ (by decide +kernel)) (GL_8 _ (by decide +kernel))) rfl rfl rfl (by decide +kernel) ⟨Nat.le_of_ble_eq_true rfl, Nat.le_of_ble_eq_true rfl⟩) rfl rfl (Nat.le_of_ble_eq_true rfl) ⟨Nat.le_of_ble_eq_true rfl, Nat.le_of_ble_eq_true rfl⟩ dX7_line_18 ?_
    clear h
    intro x2 s3 h
    exact e_i (pc := 21) a hr dX7_line_21 h
  · replace h := h.2.2 hq
    clear hq
    refine a_iload_n (pc := 8) a 1 dX7_line_8 rfl rfl ?_
    refine a_aload_n (pc := 9) a 0 dX7_line_9 rfl rfl ?_
    refine a_getI (pc := 10) a 13 13 rfl tb vc7 w2 w1 (by decide) (by decide) rfl dX7_line_10 ?_
    refine a_icmp_lt (pc := 13) a h.1 h.2.1 dX7_line_13 (tgt := 22) (by decide) (fun hq => ?_) (fun hq => ?_)
    · replace h := h.2.2.1 hq
      clear hq
      refine a_iload_n (pc := 22) a 2 dX7_line_22 rfl rfl ?_
      refine a_iconst (pc := 23) a dX7_line_23 ?_
      refine a_bipush (pc := 24) a dX7_line_24 (by decide) ?_
      refine a_csi (pc := 26) a (As := [vI p2, vI 0, vI 7]) (rest := []) (fun sz => c_X7_in hinj hl0  h sz) (va_cwS 3 hts (gl_S (GL_8 _ (by decide +kernel)) (GL_8 _ (by decide +kernel)) (GL_1 _ (by decide +kernel)) (GL_8 _ (by decide +kernel))) rfl rfl rfl (by decide +kernel) ⟨Nat.le_of_ble_eq_true rfl, Nat.le_of_ble_eq_true rfl⟩) rfl rfl (Nat.le_of_ble_eq_true rfl) ⟨Nat.le_of_ble_eq_true rfl, Nat.le_of_ble_eq_true rfl⟩ dX7_line_26 ?_
      rintro x4 s9 ⟨hs9, h9⟩
      subst s9
      replace h := h9
      clear h9
      refine a_if_eq (pc := 29) a h.1 dX7_line_29 (tgt := 45) (by decide) (fun hq => ?_) (fun hq => ?_)
      · replace h := h.2.1 hq
        clear hq
        refine a_aload_n (pc := 45) a 0 dX7_line_45 rfl rfl ?_
        refine a_iconst (pc := 46) a dX7_line_46 ?_
        refine a_cvi (pc := 47) a (As := [vI 2]) (rest := []) tb vc7 (fun sz => c_X7_fails hinj hl0  h sz) (cwV 1 hts (gl_V (GL_8 _ (by decide +kernel)) (GL_8 _ (by decide +kernel)) (GL_8 _ (by decide +kernel)) (GL_1 _ (by decide +kernel)) (GL_8 _ (by decide +kernel))) rfl rfl rfl (by decide +kernel) ⟨Nat.le_of_ble_eq_true rfl, Nat.le_of_ble_eq_true rfl⟩) rfl rfl (Nat.le_of_ble_eq_true rfl) ⟨Nat.le_of_ble_eq_true rfl, Nat.le_of_ble_eq_true rfl⟩ dX7_line_47 ?_
        clear h
        intro x5 s6 h
        exact e_i (pc := 50) a hr dX7_line_50 h
      · replace h := h.2.2 hq
        clear hq
        refine a_aload_n (pc := 32) a 0 dX7_line_32 rfl rfl ?_
        refine a_aload_n (pc := 33) a 0 dX7_line_33 rfl rfl ?_
        refine a_iload_n (pc := 34) a 1 dX7_line_34 rfl rfl ?_
        refine a_iload_n (pc := 35) a 2 dX7_line_35 rfl rfl ?_
        refine a_cvi (pc := 36) a (As := [vI p1, vI p2]) (rest := [Value.ref (ad 161)]) tb vc7 (fun sz => c_X7_lineOf hinj hl0  h sz) (cwV 2 hts (gl_V (GL_29 _ (by decide +kernel)) (GL_29 _ (by decide +kernel)) (GL_29 _ (by decide +kernel)) (GL_1 _ (by decide +kernel)) (GL_29 _ (by decide +kernel))) rfl rfl rfl (by decide +kernel) ⟨Nat.le_of_ble_eq_true rfl, Nat.le_of_ble_eq_true rfl⟩) rfl rfl (Nat.le_of_ble_eq_true rfl) ⟨Nat.le_of_ble_eq_true rfl, Nat.le_of_ble_eq_true rfl⟩ dX7_line_36 ?_
        rintro x7 s9 ⟨hs9, h9⟩
        subst s9
        replace h := h9
        clear h9
        refine a_cvi (pc := 39) a (As := [vI x7]) (rest := []) tb vc7 (fun sz => c_X7_tells hinj hl0  h sz) (cwV 1 hts (gl_V (GL_8 _ (by decide +kernel)) (GL_8 _ (by decide +kernel)) (GL_8 _ (by decide +kernel)) (GL_1 _ (by decide +kernel)) (GL_9 _ (by decide +kernel))) rfl rfl rfl (by decide +kernel) ⟨Nat.le_of_ble_eq_true rfl, Nat.le_of_ble_eq_true rfl⟩) rfl rfl (Nat.le_of_ble_eq_true rfl) ⟨Nat.le_of_ble_eq_true rfl, Nat.le_of_ble_eq_true rfl⟩ dX7_line_39 ?_
        clear h
        intro x8 s9 h
        refine a_goto (pc := 42) a dX7_line_42 (tgt := 50) (by decide) ?_
        exact e_i (pc := 50) a hr dX7_line_50 h
    · replace h := h.2.2.2 hq
      clear hq
      refine a_aload_n (pc := 16) a 0 dX7_line_16 rfl rfl ?_
      refine a_iconst (pc := 17) a dX7_line_17 ?_
      refine a_cvi (pc := 18) a (As := [vI 1]) (rest := []) tb vc7 (fun sz => c_X7_fails hinj hl0  h sz) (cwV 1 hts (gl_V (GL_8 _ (by decide +kernel)) (GL_8 _ (by decide +kernel)) (GL_8 _ (by decide +kernel)) (GL_1 _ (by decide +kernel)) (GL_8 _ (by decide +kernel))) rfl rfl rfl (by decide +kernel) ⟨Nat.le_of_ble_eq_true rfl, Nat.le_of_ble_eq_true rfl⟩) rfl rfl (Nat.le_of_ble_eq_true rfl) ⟨Nat.le_of_ble_eq_true rfl, Nat.le_of_ble_eq_true rfl⟩ dX7_line_18 ?_
      clear h
      intro x10 s11 h
      exact e_i (pc := 21) a hr dX7_line_21 h

set_option maxRecDepth 100000 in
set_option maxHeartbeats 4000000 in
theorem c_X7_boxOf {l : Launch} {D : va_G} {X : XI} {ad : Nat → Nat} (hinj : adI ad) (hl0 : l.stackTraces = false) {p1 : Int}  {σ : St} {K : Int → Prop} (h : f_X7_boxOf p1 σ K) (sz : Nat) : Met l yX7_boxOf (WW (.code yX7_boxOf cX7_boxOf 2 (some .int))) { frames := 4, cells := 0, slots := 0, locals := 86 } (va_Pc [Value.ref (ad 161), vI p1] (WD D X ad σ sz)) (QI D X ad sz (fun r τ => τ = σ ∧ K r)) 0 0 (AA ad sz) := by
  refine a_start (cc := cX7_boxOf) (maxL := 2) (ret := (some .int)) (own := RX7) [Value.ref (ad 161), vI p1] (by decide) rfl rfl (Nat.le_of_ble_eq_true rfl) hinj hl0 ?_
  intro p e s m below meth c a hr hsz
  subst hsz
  have hts := a.1.2.2.2.2
  have tb : tyc 161 (11, 0) := ⟨by decide, rfl⟩
  have w1 := hts (Cond.fieldLink RX7 116 "SightLegendModel" "corner" "I") (List.mem_cons_of_mem _ (GL_22 _ (by decide +kernel)))
  have w2 : ∀ w ∈ u_ws RX7 TX7 29, w ∈ WW (.code yX7_boxOf cX7_boxOf 2 (some .int)) := fun w h => List.mem_cons_of_mem _ (inlX7 w h)
  have w3 := hts (Cond.fieldLink RX7 119 "SightLegendModel" "boxLeft" "I") (List.mem_cons_of_mem _ (GL_22 _ (by decide +kernel)))
  have w4 := hts (Cond.fieldLink RX7 125 "SightLegendModel" "boxTop" "I") (List.mem_cons_of_mem _ (GL_22 _ (by decide +kernel)))
  have w5 := hts (Cond.fieldLink RX7 122 "SightLegendModel" "boxWide" "I") (List.mem_cons_of_mem _ (GL_22 _ (by decide +kernel)))
  have w6 := hts (Cond.fieldLink RX7 128 "SightLegendModel" "boxHigh" "I") (List.mem_cons_of_mem _ (GL_22 _ (by decide +kernel)))
  unfold f_X7_boxOf at h
  refine a_sub (ls1 := [(0, Value.ref (ad 161)), (1, vI p1)]) [0, 1] rfl ?_
  refine a_aload_n (pc := 0) a 0 dX7_boxOf_0 rfl rfl ?_
  refine a_getI (pc := 1) a 18 18 rfl tb vc7 w2 w1 (by decide) (by decide) rfl dX7_boxOf_1 ?_
  refine a_iconst (pc := 4) a dX7_boxOf_4 ?_
  refine a_icmp_ne (pc := 5) a h.1 ⟨by decide, by decide⟩ dX7_boxOf_5 (tgt := 10) (by decide) (fun hq => ?_) (fun hq => ?_)
  · replace h := h.2.1 hq
    clear hq
    refine a_iload_n (pc := 10) a 1 dX7_boxOf_10 rfl rfl ?_
    have hsw : p1 = 0 ∨ p1 = 1 ∨ p1 = 2 ∨ p1 = 3 ∨ p1 = 4 ∨ (p1 < 0 ∨ 4 < p1) := by omega
    rcases hsw with hq | hq | hq | hq | hq | hq
    · replace h := h.2.1 hq
      refine a_tsIn (pc := 11) a 0 hq ⟨by decide, by decide⟩ dX7_boxOf_11 (by decide) (by decide) rfl (tgt := 44) (by decide) ?_
      clear hq
      refine a_aload_n (pc := 44) a 0 dX7_boxOf_44 rfl rfl ?_
      refine a_getI (pc := 45) a 18 18 rfl tb vc7 w2 w1 (by decide) (by decide) rfl dX7_boxOf_45 ?_
      exact e_i (pc := 48) a hr dX7_boxOf_48 ⟨rfl, h⟩
    · replace h := h.2.2.1 hq
      refine a_tsIn (pc := 11) a 1 hq ⟨by decide, by decide⟩ dX7_boxOf_11 (by decide) (by decide) rfl (tgt := 49) (by decide) ?_
      clear hq
      refine a_aload_n (pc := 49) a 0 dX7_boxOf_49 rfl rfl ?_
      refine a_getI (pc := 50) a 19 19 rfl tb vc7 w2 w3 (by decide) (by decide) rfl dX7_boxOf_50 ?_
      exact e_i (pc := 53) a hr dX7_boxOf_53 ⟨rfl, h⟩
    · replace h := h.2.2.2.1 hq
      refine a_tsIn (pc := 11) a 2 hq ⟨by decide, by decide⟩ dX7_boxOf_11 (by decide) (by decide) rfl (tgt := 54) (by decide) ?_
      clear hq
      refine a_aload_n (pc := 54) a 0 dX7_boxOf_54 rfl rfl ?_
      refine a_getI (pc := 55) a 20 20 rfl tb vc7 w2 w4 (by decide) (by decide) rfl dX7_boxOf_55 ?_
      exact e_i (pc := 58) a hr dX7_boxOf_58 ⟨rfl, h⟩
    · replace h := h.2.2.2.2.1 hq
      refine a_tsIn (pc := 11) a 3 hq ⟨by decide, by decide⟩ dX7_boxOf_11 (by decide) (by decide) rfl (tgt := 59) (by decide) ?_
      clear hq
      refine a_aload_n (pc := 59) a 0 dX7_boxOf_59 rfl rfl ?_
      refine a_getI (pc := 60) a 21 21 rfl tb vc7 w2 w5 (by decide) (by decide) rfl dX7_boxOf_60 ?_
      exact e_i (pc := 63) a hr dX7_boxOf_63 ⟨rfl, h⟩
    · replace h := h.2.2.2.2.2.1 hq
      refine a_tsIn (pc := 11) a 4 hq ⟨by decide, by decide⟩ dX7_boxOf_11 (by decide) (by decide) rfl (tgt := 64) (by decide) ?_
      clear hq
      refine a_aload_n (pc := 64) a 0 dX7_boxOf_64 rfl rfl ?_
      refine a_getI (pc := 65) a 22 22 rfl tb vc7 w2 w6 (by decide) (by decide) rfl dX7_boxOf_65 ?_
      exact e_i (pc := 68) a hr dX7_boxOf_68 ⟨rfl, h⟩
    · have hr := h.1
      replace h := h.2.2.2.2.2.2 hq
      refine a_tsOut (pc := 11) a hr dX7_boxOf_11 hq (tgt := 69) (by decide) ?_
      clear hq hr
      refine a_aload_n (pc := 69) a 0 dX7_boxOf_69 rfl rfl ?_
      refine a_cvi (pc := 70) a (As := []) (rest := []) tb vc7 (fun sz => c_X7_coveredMany hinj hl0  h sz) (cwV 0 hts (gl_V (GL_24 _ (by decide +kernel)) (GL_24 _ (by decide +kernel)) (GL_24 _ (by decide +kernel)) (GL_1 _ (by decide +kernel)) (GL_24 _ (by decide +kernel))) rfl rfl rfl (by decide +kernel) ⟨Nat.le_of_ble_eq_true rfl, Nat.le_of_ble_eq_true rfl⟩) rfl rfl (Nat.le_of_ble_eq_true rfl) ⟨Nat.le_of_ble_eq_true rfl, Nat.le_of_ble_eq_true rfl⟩ dX7_boxOf_70 ?_
      rintro x1 s9 ⟨hs9, h9⟩
      subst s9
      replace h := h9
      clear h9
      exact e_i (pc := 73) a hr dX7_boxOf_73 ⟨rfl, h⟩
  · replace h := h.2.2 hq
    clear hq
    refine a_iconst (pc := 8) a dX7_boxOf_8 ?_
    exact e_i (pc := 9) a hr dX7_boxOf_9 ⟨rfl, h⟩

set_option maxRecDepth 100000 in
set_option maxHeartbeats 4000000 in
theorem c_X7_box {l : Launch} {D : va_G} {X : XI} {ad : Nat → Nat} (hinj : adI ad) (hl0 : l.stackTraces = false) {p1 : Int}  {σ : St} {K : Int → St → Prop} (h : f_X7_box p1 σ K) (sz : Nat) : Met l yX7_box (WW (.code yX7_box cX7_box 2 (some .int))) { frames := 8, cells := 0, slots := 0, locals := 182 } (va_Pc [Value.ref (ad 161), vI p1] (WD D X ad σ sz)) (QI D X ad sz K) 0 0 (AA ad sz) := by
  refine a_start (cc := cX7_box) (maxL := 2) (ret := (some .int)) (own := RX7) [Value.ref (ad 161), vI p1] (by decide) rfl rfl (Nat.le_of_ble_eq_true rfl) hinj hl0 ?_
  intro p e s m below meth c a hr hsz
  subst hsz
  have hts := a.1.2.2.2.2
  have tb : tyc 161 (11, 0) := ⟨by decide, rfl⟩
  unfold f_X7_box at h
  refine a_sub (ls1 := [(0, Value.ref (ad 161)), (1, vI p1)]) [0, 1] rfl ?_
  refine a_iload_n (pc := 0) a 1 dX7_box_0 rfl rfl ?_
  refine a_iconst (pc := 1) a dX7_box_1 ?_
  refine a_iconst (pc := 2) a dX7_box_2 ?_
  refine a_csi (pc := 3) a (As := [vI p1, vI 0, vI 5]) (rest := []) (fun sz => c_X7_in hinj hl0  h sz) (va_cwS 3 hts (gl_S (GL_8 _ (by decide +kernel)) (GL_8 _ (by decide +kernel)) (GL_1 _ (by decide +kernel)) (GL_8 _ (by decide +kernel))) rfl rfl rfl (by decide +kernel) ⟨Nat.le_of_ble_eq_true rfl, Nat.le_of_ble_eq_true rfl⟩) rfl rfl (Nat.le_of_ble_eq_true rfl) ⟨Nat.le_of_ble_eq_true rfl, Nat.le_of_ble_eq_true rfl⟩ dX7_box_3 ?_
  rintro x1 s9 ⟨hs9, h9⟩
  subst s9
  replace h := h9
  clear h9
  refine a_if_ne (pc := 6) a h.1 dX7_box_6 (tgt := 15) (by decide) (fun hq => ?_) (fun hq => ?_)
  · replace h := h.2.1 hq
    clear hq
    refine a_aload_n (pc := 15) a 0 dX7_box_15 rfl rfl ?_
    refine a_cvv (pc := 16) a (As := []) (rest := []) tb vc7 (fun sz => c_X7_makes hinj hl0  h sz) (cwV 0 hts (gl_V (GL_21 _ (by decide +kernel)) (GL_21 _ (by decide +kernel)) (GL_22 _ (by decide +kernel)) (GL_1 _ (by decide +kernel)) (GL_22 _ (by decide +kernel))) rfl rfl rfl (by decide +kernel) ⟨Nat.le_of_ble_eq_true rfl, Nat.le_of_ble_eq_true rfl⟩) rfl rfl (Nat.le_of_ble_eq_true rfl) ⟨Nat.le_of_ble_eq_true rfl, Nat.le_of_ble_eq_true rfl⟩ dX7_box_16 ?_
    clear h
    intro s2 h
    refine a_aload_n (pc := 19) a 0 dX7_box_19 rfl rfl ?_
    refine a_aload_n (pc := 20) a 0 dX7_box_20 rfl rfl ?_
    refine a_iload_n (pc := 21) a 1 dX7_box_21 rfl rfl ?_
    refine a_cvi (pc := 22) a (As := [vI p1]) (rest := [Value.ref (ad 161)]) tb vc7 (fun sz => c_X7_boxOf hinj hl0  h sz) (cwV 1 hts (gl_V (GL_30 _ (by decide +kernel)) (GL_30 _ (by decide +kernel)) (GL_30 _ (by decide +kernel)) (GL_1 _ (by decide +kernel)) (GL_30 _ (by decide +kernel))) rfl rfl rfl (by decide +kernel) ⟨Nat.le_of_ble_eq_true rfl, Nat.le_of_ble_eq_true rfl⟩) rfl rfl (Nat.le_of_ble_eq_true rfl) ⟨Nat.le_of_ble_eq_true rfl, Nat.le_of_ble_eq_true rfl⟩ dX7_box_22 ?_
    rintro x3 s9 ⟨hs9, h9⟩
    subst s9
    replace h := h9
    clear h9
    refine a_cvi (pc := 25) a (As := [vI x3]) (rest := []) tb vc7 (fun sz => c_X7_tells hinj hl0  h sz) (cwV 1 hts (gl_V (GL_8 _ (by decide +kernel)) (GL_8 _ (by decide +kernel)) (GL_8 _ (by decide +kernel)) (GL_1 _ (by decide +kernel)) (GL_9 _ (by decide +kernel))) rfl rfl rfl (by decide +kernel) ⟨Nat.le_of_ble_eq_true rfl, Nat.le_of_ble_eq_true rfl⟩) rfl rfl (Nat.le_of_ble_eq_true rfl) ⟨Nat.le_of_ble_eq_true rfl, Nat.le_of_ble_eq_true rfl⟩ dX7_box_25 ?_
    clear h
    intro x4 s5 h
    exact e_i (pc := 28) a hr dX7_box_28 h
  · replace h := h.2.2 hq
    clear hq
    refine a_aload_n (pc := 9) a 0 dX7_box_9 rfl rfl ?_
    refine a_iconst (pc := 10) a dX7_box_10 ?_
    refine a_cvi (pc := 11) a (As := [vI 1]) (rest := []) tb vc7 (fun sz => c_X7_fails hinj hl0  h sz) (cwV 1 hts (gl_V (GL_8 _ (by decide +kernel)) (GL_8 _ (by decide +kernel)) (GL_8 _ (by decide +kernel)) (GL_1 _ (by decide +kernel)) (GL_8 _ (by decide +kernel))) rfl rfl rfl (by decide +kernel) ⟨Nat.le_of_ble_eq_true rfl, Nat.le_of_ble_eq_true rfl⟩) rfl rfl (Nat.le_of_ble_eq_true rfl) ⟨Nat.le_of_ble_eq_true rfl, Nat.le_of_ble_eq_true rfl⟩ dX7_box_11 ?_
    clear h
    intro x6 s7 h
    exact e_i (pc := 14) a hr dX7_box_14 h

set_option maxRecDepth 100000 in
set_option maxHeartbeats 4000000 in
theorem c_X7_roundsOf {l : Launch} {D : va_G} {X : XI} {ad : Nat → Nat} (hinj : adI ad) (hl0 : l.stackTraces = false) {p1 : Int}  {σ : St} {K : Int → Prop} (h : f_X7_roundsOf p1 σ K) (sz : Nat) : Met l yX7_roundsOf (WW (.code yX7_roundsOf cX7_roundsOf 4 (some .int))) { frames := 2, cells := 0, slots := 0, locals := 43 } (va_Pc [Value.ref (ad 161), vI p1] (WD D X ad σ sz)) (QI D X ad sz (fun r τ => τ = σ ∧ K r)) 0 0 (AA ad sz) := by
  refine a_start (cc := cX7_roundsOf) (maxL := 4) (ret := (some .int)) (own := RX7) [Value.ref (ad 161), vI p1] (by decide) rfl rfl (Nat.le_of_ble_eq_true rfl) hinj hl0 ?_
  intro p e s m below meth c a hr hsz
  subst hsz
  have hts := a.1.2.2.2.2
  have tb : tyc 161 (11, 0) := ⟨by decide, rfl⟩
  have w1 := hts (Cond.fieldLink RX7 7 "SightLegendModel" "s" "[I") (List.mem_cons_of_mem _ (GL_5 _ (by decide +kernel)))
  have w2 : ∀ w ∈ u_ws RX7 TX7 29, w ∈ WW (.code yX7_roundsOf cX7_roundsOf 4 (some .int)) := fun w h => List.mem_cons_of_mem _ (inlX7 w h)
  have w3 : tyc 162 (0, 311) := ty_of (d := 1) (t1 := (0, 311)) (by decide +kernel) rfl tb
  have w4 := hts (Cond.fieldLink RX7 25 "SightLegendModel" "sight" "[Z") (List.mem_cons_of_mem _ (GL_5 _ (by decide +kernel)))
  have w5 : tyc 167 (1, 40) := ty_of (d := 6) (t1 := (1, 40)) (by decide +kernel) rfl tb
  have w6 := hts (Cond.fieldLink RX7 153 "SightLegendModel" "isSame" "Z") (List.mem_cons_of_mem _ (GL_22 _ (by decide +kernel)))
  have w7 := hts (Cond.fieldLink RX7 150 "SightLegendModel" "rounds" "I") (List.mem_cons_of_mem _ (GL_22 _ (by decide +kernel)))
  unfold f_X7_roundsOf at h
  refine a_sub (ls1 := [(0, Value.ref (ad 161)), (1, vI p1)]) [0, 1] rfl ?_
  refine a_iload_n (pc := 0) a 1 dX7_roundsOf_0 rfl rfl ?_
  refine a_iconst (pc := 1) a dX7_roundsOf_1 ?_
  refine a_icmp_ge (pc := 2) a h.1 ⟨by decide, by decide⟩ dX7_roundsOf_2 (tgt := 29) (by decide) (fun hq => ?_) (fun hq => ?_)
  · replace h := h.2.1 hq
    clear hq
    refine a_iconst (pc := 29) a dX7_roundsOf_29 ?_
    refine a_istore_n (pc := 30) a (ls1 := [(2, vI 0), (0, Value.ref (ad 161)), (1, vI p1)]) dX7_roundsOf_30 rfl (by decide) rfl ?_
    refine a_iconst (pc := 31) a dX7_roundsOf_31 ?_
    refine a_istore_n (pc := 32) a (ls1 := [(3, vI 0), (2, vI 0), (0, Value.ref (ad 161)), (1, vI p1)]) dX7_roundsOf_32 rfl (by decide) rfl ?_
    refine a_sub (ls1 := [(0, Value.ref (ad 161)), (2, vI 0), (3, vI 0)]) [2, 1, 0] rfl ?_
    refine g_wl2 (fun x1 x2 => [(0, Value.ref (ad 161)), (2, vI x1), (3, vI x2)]) h ?_
    clear h
    intro x1 x2 ag33 hag33 h
    refine a_iload_n (pc := 33) a 2 dX7_roundsOf_33 rfl rfl ?_
    refine a_aload_n (pc := 34) a 0 dX7_roundsOf_34 rfl rfl ?_
    refine a_getR (pc := 35) a 0 0 rfl tb vc7 w2 w1 (by decide) (by decide) 1 (q := 162) rfl rfl dX7_roundsOf_35 ?_
    refine a_bipush (pc := 38) a dX7_roundsOf_38 (by decide) ?_
    refine a_iald (pc := 40) a w3 (by decide) (by decide) dX7_roundsOf_40 ?_
    refine a_icmp_ge (pc := 41) a h.1 h.2.1 dX7_roundsOf_41 (tgt := 75) (by decide) (fun hq => ?_) (fun hq => ?_)
    · replace h := h.2.2.1 hq
      clear hq
      refine a_iload_n (pc := 75) a 1 dX7_roundsOf_75 rfl rfl ?_
      exact e_i (pc := 76) a hr dX7_roundsOf_76 ⟨rfl, h⟩
    · replace h := h.2.2.2 hq
      clear hq
      refine a_iload_n (pc := 44) a 1 dX7_roundsOf_44 rfl rfl ?_
      refine a_aload_n (pc := 45) a 0 dX7_roundsOf_45 rfl rfl ?_
      refine a_getR (pc := 46) a 8 8 rfl tb vc7 w2 w4 (by decide) (by decide) 6 (q := 167) rfl rfl dX7_roundsOf_46 ?_
      refine a_iload_n (pc := 49) a 2 dX7_roundsOf_49 rfl rfl ?_
      refine a_zald (pc := 50) a w5 (by decide) h.1 dX7_roundsOf_50 ?_
      replace h := h.2
      refine a_if_eq (pc := 51) a h.1 dX7_roundsOf_51 (tgt := 66) (by decide) (fun hq => ?_) (fun hq => ?_)
      · replace h := h.2.1 hq
        clear hq
        refine a_iconst (pc := 66) a dX7_roundsOf_66 ?_
        refine a_iadd (pc := 67) a dX7_roundsOf_67 ?_
        refine a_nm (fun x3 hx => ?_)
        replace h := h x3 hx
        clear hx
        refine a_istore_n (pc := 68) a (ls1 := [(2, vI x3), (0, Value.ref (ad 161)), (3, vI x2)]) dX7_roundsOf_68 rfl (by decide) rfl ?_
        refine a_iinc (pc := 69) a (ls1 := [(3, vI (x2 + 1)), (2, vI x3), (0, Value.ref (ad 161))]) 2 dX7_roundsOf_69 rfl (by decide) rfl ?_
        refine a_goto (pc := 72) a dX7_roundsOf_72 (tgt := 33) (by decide) ?_
        refine a_sub (ls1 := [(0, Value.ref (ad 161)), (2, vI x3), (3, vI (x2 + 1))]) [2, 1, 0] rfl ?_
        exact hag33 x3 (x2 + 1) h
      · replace h := h.2.2 hq
        clear hq
        refine a_aload_n (pc := 54) a 0 dX7_roundsOf_54 rfl rfl ?_
        refine a_iload_n (pc := 55) a 2 dX7_roundsOf_55 rfl rfl ?_
        refine a_cvi (pc := 56) a (As := [vI x2]) (rest := [vI x1]) tb vc7 (fun sz => c_X7_isCovered hinj hl0  h sz) (cwV 1 hts (gl_V (GL_22 _ (by decide +kernel)) (GL_22 _ (by decide +kernel)) (GL_22 _ (by decide +kernel)) (GL_1 _ (by decide +kernel)) (GL_22 _ (by decide +kernel))) rfl rfl rfl (by decide +kernel) ⟨Nat.le_of_ble_eq_true rfl, Nat.le_of_ble_eq_true rfl⟩) rfl rfl (Nat.le_of_ble_eq_true rfl) ⟨Nat.le_of_ble_eq_true rfl, Nat.le_of_ble_eq_true rfl⟩ dX7_roundsOf_56 ?_
        rintro x4 s9 ⟨hs9, h9⟩
        subst s9
        replace h := h9
        clear h9
        refine a_if_eq (pc := 59) a h.1 dX7_roundsOf_59 (tgt := 66) (by decide) (fun hq => ?_) (fun hq => ?_)
        · replace h := h.2.1 hq
          clear hq
          refine a_iconst (pc := 66) a dX7_roundsOf_66 ?_
          refine a_iadd (pc := 67) a dX7_roundsOf_67 ?_
          refine a_nm (fun x5 hx => ?_)
          replace h := h x5 hx
          clear hx
          refine a_istore_n (pc := 68) a (ls1 := [(2, vI x5), (0, Value.ref (ad 161)), (3, vI x2)]) dX7_roundsOf_68 rfl (by decide) rfl ?_
          refine a_iinc (pc := 69) a (ls1 := [(3, vI (x2 + 1)), (2, vI x5), (0, Value.ref (ad 161))]) 2 dX7_roundsOf_69 rfl (by decide) rfl ?_
          refine a_goto (pc := 72) a dX7_roundsOf_72 (tgt := 33) (by decide) ?_
          refine a_sub (ls1 := [(0, Value.ref (ad 161)), (2, vI x5), (3, vI (x2 + 1))]) [2, 1, 0] rfl ?_
          exact hag33 x5 (x2 + 1) h
        · replace h := h.2.2 hq
          clear hq
          refine a_iconst (pc := 62) a dX7_roundsOf_62 ?_
          refine a_goto (pc := 63) a dX7_roundsOf_63 (tgt := 67) (by decide) ?_
          refine a_iadd (pc := 67) a dX7_roundsOf_67 ?_
          refine a_nm (fun x6 hx => ?_)
          replace h := h x6 hx
          clear hx
          refine a_istore_n (pc := 68) a (ls1 := [(2, vI x6), (0, Value.ref (ad 161)), (3, vI x2)]) dX7_roundsOf_68 rfl (by decide) rfl ?_
          refine a_iinc (pc := 69) a (ls1 := [(3, vI (x2 + 1)), (2, vI x6), (0, Value.ref (ad 161))]) 2 dX7_roundsOf_69 rfl (by decide) rfl ?_
          refine a_goto (pc := 72) a dX7_roundsOf_72 (tgt := 33) (by decide) ?_
          refine a_sub (ls1 := [(0, Value.ref (ad 161)), (2, vI x6), (3, vI (x2 + 1))]) [2, 1, 0] rfl ?_
          exact hag33 x6 (x2 + 1) h
  · replace h := h.2.2 hq
    clear hq
    refine a_iload_n (pc := 5) a 1 dX7_roundsOf_5 rfl rfl ?_
    refine a_if_ne (pc := 6) a h.1 dX7_roundsOf_6 (tgt := 16) (by decide) (fun hq => ?_) (fun hq => ?_)
    · replace h := h.2.1 hq
      clear hq
      refine a_aload_n (pc := 16) a 0 dX7_roundsOf_16 rfl rfl ?_
      refine a_getI (pc := 17) a 17 17 rfl tb vc7 w2 w6 (by decide) (by decide) rfl dX7_roundsOf_17 ?_
      refine a_if_eq (pc := 20) a h.1 dX7_roundsOf_20 (tgt := 27) (by decide) (fun hq => ?_) (fun hq => ?_)
      · replace h := h.2.1 hq
        clear hq
        refine a_iconst (pc := 27) a dX7_roundsOf_27 ?_
        exact e_i (pc := 28) a hr dX7_roundsOf_28 ⟨rfl, h⟩
      · replace h := h.2.2 hq
        clear hq
        refine a_iconst (pc := 23) a dX7_roundsOf_23 ?_
        refine a_goto (pc := 24) a dX7_roundsOf_24 (tgt := 28) (by decide) ?_
        exact e_i (pc := 28) a hr dX7_roundsOf_28 ⟨rfl, h⟩
    · replace h := h.2.2 hq
      clear hq
      refine a_aload_n (pc := 9) a 0 dX7_roundsOf_9 rfl rfl ?_
      refine a_getI (pc := 10) a 16 16 rfl tb vc7 w2 w7 (by decide) (by decide) rfl dX7_roundsOf_10 ?_
      refine a_goto (pc := 13) a dX7_roundsOf_13 (tgt := 28) (by decide) ?_
      exact e_i (pc := 28) a hr dX7_roundsOf_28 ⟨rfl, h⟩

set_option maxRecDepth 100000 in
set_option maxHeartbeats 4000000 in
theorem c_X7_rounds {l : Launch} {D : va_G} {X : XI} {ad : Nat → Nat} (hinj : adI ad) (hl0 : l.stackTraces = false) {p1 : Int}  {σ : St} {K : Int → St → Prop} (h : f_X7_rounds p1 σ K) (sz : Nat) : Met l yX7_rounds (WW (.code yX7_rounds cX7_rounds 2 (some .int))) { frames := 8, cells := 0, slots := 0, locals := 182 } (va_Pc [Value.ref (ad 161), vI p1] (WD D X ad σ sz)) (QI D X ad sz K) 0 0 (AA ad sz) := by
  refine a_start (cc := cX7_rounds) (maxL := 2) (ret := (some .int)) (own := RX7) [Value.ref (ad 161), vI p1] (by decide) rfl rfl (Nat.le_of_ble_eq_true rfl) hinj hl0 ?_
  intro p e s m below meth c a hr hsz
  subst hsz
  have hts := a.1.2.2.2.2
  have tb : tyc 161 (11, 0) := ⟨by decide, rfl⟩
  unfold f_X7_rounds at h
  refine a_sub (ls1 := [(0, Value.ref (ad 161)), (1, vI p1)]) [0, 1] rfl ?_
  refine a_iload_n (pc := 0) a 1 dX7_rounds_0 rfl rfl ?_
  refine a_iconst (pc := 1) a dX7_rounds_1 ?_
  refine a_iconst (pc := 2) a dX7_rounds_2 ?_
  refine a_csi (pc := 3) a (As := [vI p1, vI 0, vI 2]) (rest := []) (fun sz => c_X7_in hinj hl0  h sz) (va_cwS 3 hts (gl_S (GL_8 _ (by decide +kernel)) (GL_8 _ (by decide +kernel)) (GL_1 _ (by decide +kernel)) (GL_8 _ (by decide +kernel))) rfl rfl rfl (by decide +kernel) ⟨Nat.le_of_ble_eq_true rfl, Nat.le_of_ble_eq_true rfl⟩) rfl rfl (Nat.le_of_ble_eq_true rfl) ⟨Nat.le_of_ble_eq_true rfl, Nat.le_of_ble_eq_true rfl⟩ dX7_rounds_3 ?_
  rintro x1 s9 ⟨hs9, h9⟩
  subst s9
  replace h := h9
  clear h9
  refine a_if_ne (pc := 6) a h.1 dX7_rounds_6 (tgt := 15) (by decide) (fun hq => ?_) (fun hq => ?_)
  · replace h := h.2.1 hq
    clear hq
    refine a_aload_n (pc := 15) a 0 dX7_rounds_15 rfl rfl ?_
    refine a_cvv (pc := 16) a (As := []) (rest := []) tb vc7 (fun sz => c_X7_makes hinj hl0  h sz) (cwV 0 hts (gl_V (GL_21 _ (by decide +kernel)) (GL_21 _ (by decide +kernel)) (GL_22 _ (by decide +kernel)) (GL_1 _ (by decide +kernel)) (GL_22 _ (by decide +kernel))) rfl rfl rfl (by decide +kernel) ⟨Nat.le_of_ble_eq_true rfl, Nat.le_of_ble_eq_true rfl⟩) rfl rfl (Nat.le_of_ble_eq_true rfl) ⟨Nat.le_of_ble_eq_true rfl, Nat.le_of_ble_eq_true rfl⟩ dX7_rounds_16 ?_
    clear h
    intro s2 h
    refine a_aload_n (pc := 19) a 0 dX7_rounds_19 rfl rfl ?_
    refine a_aload_n (pc := 20) a 0 dX7_rounds_20 rfl rfl ?_
    refine a_iload_n (pc := 21) a 1 dX7_rounds_21 rfl rfl ?_
    refine a_cvi (pc := 22) a (As := [vI p1]) (rest := [Value.ref (ad 161)]) tb vc7 (fun sz => c_X7_roundsOf hinj hl0  h sz) (cwV 1 hts (gl_V (GL_31 _ (by decide +kernel)) (GL_31 _ (by decide +kernel)) (GL_31 _ (by decide +kernel)) (GL_1 _ (by decide +kernel)) (GL_31 _ (by decide +kernel))) rfl rfl rfl (by decide +kernel) ⟨Nat.le_of_ble_eq_true rfl, Nat.le_of_ble_eq_true rfl⟩) rfl rfl (Nat.le_of_ble_eq_true rfl) ⟨Nat.le_of_ble_eq_true rfl, Nat.le_of_ble_eq_true rfl⟩ dX7_rounds_22 ?_
    rintro x3 s9 ⟨hs9, h9⟩
    subst s9
    replace h := h9
    clear h9
    refine a_cvi (pc := 25) a (As := [vI x3]) (rest := []) tb vc7 (fun sz => c_X7_tells hinj hl0  h sz) (cwV 1 hts (gl_V (GL_8 _ (by decide +kernel)) (GL_8 _ (by decide +kernel)) (GL_8 _ (by decide +kernel)) (GL_1 _ (by decide +kernel)) (GL_9 _ (by decide +kernel))) rfl rfl rfl (by decide +kernel) ⟨Nat.le_of_ble_eq_true rfl, Nat.le_of_ble_eq_true rfl⟩) rfl rfl (Nat.le_of_ble_eq_true rfl) ⟨Nat.le_of_ble_eq_true rfl, Nat.le_of_ble_eq_true rfl⟩ dX7_rounds_25 ?_
    clear h
    intro x4 s5 h
    exact e_i (pc := 28) a hr dX7_rounds_28 h
  · replace h := h.2.2 hq
    clear hq
    refine a_aload_n (pc := 9) a 0 dX7_rounds_9 rfl rfl ?_
    refine a_iconst (pc := 10) a dX7_rounds_10 ?_
    refine a_cvi (pc := 11) a (As := [vI 1]) (rest := []) tb vc7 (fun sz => c_X7_fails hinj hl0  h sz) (cwV 1 hts (gl_V (GL_8 _ (by decide +kernel)) (GL_8 _ (by decide +kernel)) (GL_8 _ (by decide +kernel)) (GL_1 _ (by decide +kernel)) (GL_8 _ (by decide +kernel))) rfl rfl rfl (by decide +kernel) ⟨Nat.le_of_ble_eq_true rfl, Nat.le_of_ble_eq_true rfl⟩) rfl rfl (Nat.le_of_ble_eq_true rfl) ⟨Nat.le_of_ble_eq_true rfl, Nat.le_of_ble_eq_true rfl⟩ dX7_rounds_11 ?_
    clear h
    intro x6 s7 h
    exact e_i (pc := 14) a hr dX7_rounds_14 h

set_option maxRecDepth 100000 in
set_option maxHeartbeats 4000000 in
theorem c_X7_firstLines {l : Launch} {D : va_G} {X : XI} {ad : Nat → Nat} (hinj : adI ad) (hl0 : l.stackTraces = false)   {σ : St} {K : Int → St → Prop} (h : f_X7_firstLines σ K) (sz : Nat) : Met l yX7_firstLines (WW (.code yX7_firstLines cX7_firstLines 1 (some .int))) { frames := 8, cells := 0, slots := 0, locals := 182 } (va_Pc [Value.ref (ad 161)] (WD D X ad σ sz)) (QI D X ad sz K) 0 0 (AA ad sz) := by
  refine a_start (cc := cX7_firstLines) (maxL := 1) (ret := (some .int)) (own := RX7) [Value.ref (ad 161)] (by decide) rfl rfl (Nat.le_of_ble_eq_true rfl) hinj hl0 ?_
  intro p e s m below meth c a hr hsz
  subst hsz
  have hts := a.1.2.2.2.2
  have tb : tyc 161 (11, 0) := ⟨by decide, rfl⟩
  have w1 := hts (Cond.fieldLink RX7 160 "SightLegendModel" "firstLines" "I") (List.mem_cons_of_mem _ (GL_22 _ (by decide +kernel)))
  have w2 : ∀ w ∈ u_ws RX7 TX7 29, w ∈ WW (.code yX7_firstLines cX7_firstLines 1 (some .int)) := fun w h => List.mem_cons_of_mem _ (inlX7 w h)
  unfold f_X7_firstLines at h
  refine a_sub (ls1 := [(0, Value.ref (ad 161))]) [0] rfl ?_
  refine a_aload_n (pc := 0) a 0 dX7_firstLines_0 rfl rfl ?_
  refine a_cvv (pc := 1) a (As := []) (rest := []) tb vc7 (fun sz => c_X7_makes hinj hl0  h sz) (cwV 0 hts (gl_V (GL_21 _ (by decide +kernel)) (GL_21 _ (by decide +kernel)) (GL_22 _ (by decide +kernel)) (GL_1 _ (by decide +kernel)) (GL_22 _ (by decide +kernel))) rfl rfl rfl (by decide +kernel) ⟨Nat.le_of_ble_eq_true rfl, Nat.le_of_ble_eq_true rfl⟩) rfl rfl (Nat.le_of_ble_eq_true rfl) ⟨Nat.le_of_ble_eq_true rfl, Nat.le_of_ble_eq_true rfl⟩ dX7_firstLines_1 ?_
  clear h
  intro s1 h
  refine a_aload_n (pc := 4) a 0 dX7_firstLines_4 rfl rfl ?_
  refine a_aload_n (pc := 5) a 0 dX7_firstLines_5 rfl rfl ?_
  refine a_getI (pc := 6) a 15 15 rfl tb vc7 w2 w1 (by decide) (by decide) rfl dX7_firstLines_6 ?_
  refine a_cvi (pc := 9) a (As := [vI (s1 161 15)]) (rest := []) tb vc7 (fun sz => c_X7_tells hinj hl0  h sz) (cwV 1 hts (gl_V (GL_8 _ (by decide +kernel)) (GL_8 _ (by decide +kernel)) (GL_8 _ (by decide +kernel)) (GL_1 _ (by decide +kernel)) (GL_9 _ (by decide +kernel))) rfl rfl rfl (by decide +kernel) ⟨Nat.le_of_ble_eq_true rfl, Nat.le_of_ble_eq_true rfl⟩) rfl rfl (Nat.le_of_ble_eq_true rfl) ⟨Nat.le_of_ble_eq_true rfl, Nat.le_of_ble_eq_true rfl⟩ dX7_firstLines_9 ?_
  clear h
  intro x2 s3 h
  exact e_i (pc := 12) a hr dX7_firstLines_12 h

set_option maxRecDepth 100000 in
set_option maxHeartbeats 4000000 in
theorem c_X7_explained {l : Launch} {D : va_G} {X : XI} {ad : Nat → Nat} (hinj : adI ad) (hl0 : l.stackTraces = false)   {σ : St} {K : UInt64 → St → Prop} (h : f_X7_explained σ K) (sz : Nat) : Met l yX7_explained (WW (.code yX7_explained cX7_explained 2 (some .double))) { frames := 8, cells := 0, slots := 0, locals := 182 } (va_Pc [Value.ref (ad 161)] (WD D X ad σ sz)) (QD D X ad sz K) 0 0 (AA ad sz) := by
  refine a_start (cc := cX7_explained) (maxL := 2) (ret := (some .double)) (own := RX7) [Value.ref (ad 161)] (by decide) rfl rfl (Nat.le_of_ble_eq_true rfl) hinj hl0 ?_
  intro p e s m below meth c a hr hsz
  subst hsz
  have hts := a.1.2.2.2.2
  have tb : tyc 161 (11, 0) := ⟨by decide, rfl⟩
  have w1 := hts (Cond.fieldLink RX7 53 "SightLegendModel" "thrown" "I") (List.mem_cons_of_mem _ (GL_8 _ (by decide +kernel)))
  have w2 : ∀ w ∈ u_ws RX7 TX7 29, w ∈ WW (.code yX7_explained cX7_explained 2 (some .double)) := fun w h => List.mem_cons_of_mem _ (inlX7 w h)
  unfold f_X7_explained at h
  refine a_sub (ls1 := [(0, Value.ref (ad 161))]) [0] rfl ?_
  refine a_aload_n (pc := 0) a 0 dX7_explained_0 rfl rfl ?_
  refine a_iconst (pc := 1) a dX7_explained_1 ?_
  refine a_putI (pc := 2) a 7 7 rfl tb vc7 w2 w1 (by decide) (by decide) tyX7 tyX7_ok nmX7 rfl rfl (by decide +kernel) dX7_explained_2 ?_
  refine a_nmS (fun s1 hx => ?_)
  replace h := h s1 hx
  clear hx
  refine a_aload_n (pc := 5) a 0 dX7_explained_5 rfl rfl ?_
  refine a_cvv (pc := 6) a (As := []) (rest := []) tb vc7 (fun sz => c_X7_makes hinj hl0  h sz) (cwV 0 hts (gl_V (GL_21 _ (by decide +kernel)) (GL_21 _ (by decide +kernel)) (GL_22 _ (by decide +kernel)) (GL_1 _ (by decide +kernel)) (GL_22 _ (by decide +kernel))) rfl rfl rfl (by decide +kernel) ⟨Nat.le_of_ble_eq_true rfl, Nat.le_of_ble_eq_true rfl⟩) rfl rfl (Nat.le_of_ble_eq_true rfl) ⟨Nat.le_of_ble_eq_true rfl, Nat.le_of_ble_eq_true rfl⟩ dX7_explained_6 ?_
  clear h
  intro s2 h
  refine a_aload_n (pc := 9) a 0 dX7_explained_9 rfl rfl ?_
  refine a_cvi (pc := 10) a (As := []) (rest := []) tb vc7 (fun sz => c_X7_shownMany hinj hl0  h sz) (cwV 0 hts (gl_V (GL_12 _ (by decide +kernel)) (GL_12 _ (by decide +kernel)) (GL_12 _ (by decide +kernel)) (GL_1 _ (by decide +kernel)) (GL_12 _ (by decide +kernel))) rfl rfl rfl (by decide +kernel) ⟨Nat.le_of_ble_eq_true rfl, Nat.le_of_ble_eq_true rfl⟩) rfl rfl (Nat.le_of_ble_eq_true rfl) ⟨Nat.le_of_ble_eq_true rfl, Nat.le_of_ble_eq_true rfl⟩ dX7_explained_10 ?_
  rintro x3 s9 ⟨hs9, h9⟩
  subst s9
  replace h := h9
  clear h9
  refine a_istore_n (pc := 13) a (ls1 := [(1, vI x3), (0, Value.ref (ad 161))]) dX7_explained_13 rfl (by decide) rfl ?_
  refine a_iload_n (pc := 14) a 0 dX7_explained_14 rfl rfl ?_
  refine a_if_ne (pc := 15) a h.1 dX7_explained_15 (tgt := 22) (by decide) (fun hq => ?_) (fun hq => ?_)
  · replace h := h.2.1 hq
    clear hq
    refine a_aload_n (pc := 22) a 1 dX7_explained_22 rfl rfl ?_
    refine a_cvi (pc := 23) a (As := []) (rest := []) tb vc7 (fun sz => c_X7_explainedMany hinj hl0  h sz) (cwV 0 hts (gl_V (GL_25 _ (by decide +kernel)) (GL_25 _ (by decide +kernel)) (GL_25 _ (by decide +kernel)) (GL_1 _ (by decide +kernel)) (GL_25 _ (by decide +kernel))) rfl rfl rfl (by decide +kernel) ⟨Nat.le_of_ble_eq_true rfl, Nat.le_of_ble_eq_true rfl⟩) rfl rfl (Nat.le_of_ble_eq_true rfl) ⟨Nat.le_of_ble_eq_true rfl, Nat.le_of_ble_eq_true rfl⟩ dX7_explained_23 ?_
    rintro x4 s9 ⟨hs9, h9⟩
    subst s9
    replace h := h9
    clear h9
    refine a_i2d (pc := 26) a dX7_explained_26 ?_
    refine a_iload_n (pc := 27) a 0 dX7_explained_27 rfl rfl ?_
    refine a_i2d (pc := 28) a dX7_explained_28 ?_
    refine a_ddiv (pc := 29) a h.1 dX7_explained_29 ?_
    replace h := h.2
    exact e_d (pc := 30) a hr dX7_explained_30 h
  · replace h := h.2.2 hq
    clear hq
    refine a_dconst1 (pc := 18) a dX7_explained_18 ?_
    refine a_goto (pc := 19) a dX7_explained_19 (tgt := 30) (by decide) ?_
    exact e_d (pc := 30) a hr dX7_explained_30 h

set_option maxRecDepth 100000 in
set_option maxHeartbeats 4000000 in
theorem c_X7_linesAt {l : Launch} {D : va_G} {X : XI} {ad : Nat → Nat} (hinj : adI ad) (hl0 : l.stackTraces = false) {p1 : Int} {p2 : Int}  {σ : St} {K : Int → St → Prop} (h : f_X7_linesAt p1 p2 σ K) (sz : Nat) : Met l yX7_linesAt (WW (.code yX7_linesAt cX7_linesAt 3 (some .int))) { frames := 8, cells := 0, slots := 0, locals := 182 } (va_Pc [Value.ref (ad 161), vI p1, vI p2] (WD D X ad σ sz)) (QI D X ad sz K) 0 0 (AA ad sz) := by
  refine a_start (cc := cX7_linesAt) (maxL := 3) (ret := (some .int)) (own := RX7) [Value.ref (ad 161), vI p1, vI p2] (by decide) rfl rfl (Nat.le_of_ble_eq_true rfl) hinj hl0 ?_
  intro p e s m below meth c a hr hsz
  subst hsz
  have hts := a.1.2.2.2.2
  have tb : tyc 161 (11, 0) := ⟨by decide, rfl⟩
  have w1 := hts (Cond.fieldLink RX7 19 "SightLegendModel" "kept" "[I") (List.mem_cons_of_mem _ (GL_5 _ (by decide +kernel)))
  have w2 : ∀ w ∈ u_ws RX7 TX7 29, w ∈ WW (.code yX7_linesAt cX7_linesAt 3 (some .int)) := fun w h => List.mem_cons_of_mem _ (inlX7 w h)
  have w3 : tyc 165 (0, 311) := ty_of (d := 4) (t1 := (0, 311)) (by decide +kernel) rfl tb
  have w4 := hts (Cond.fieldLink RX7 7 "SightLegendModel" "s" "[I") (List.mem_cons_of_mem _ (GL_5 _ (by decide +kernel)))
  have w5 : tyc 162 (0, 311) := ty_of (d := 1) (t1 := (0, 311)) (by decide +kernel) rfl tb
  have w6 := hts (Cond.fieldLink RX7 83 "SightLegendModel" "lines" "I") (List.mem_cons_of_mem _ (GL_22 _ (by decide +kernel)))
  unfold f_X7_linesAt at h
  refine a_sub (ls1 := [(0, Value.ref (ad 161)), (1, vI p1), (2, vI p2)]) [0, 1, 2] rfl ?_
  refine a_iload_n (pc := 0) a 1 dX7_linesAt_0 rfl rfl ?_
  refine a_iconst (pc := 1) a dX7_linesAt_1 ?_
  refine a_sipush (pc := 2) a dX7_linesAt_2 (by decide) ?_
  refine a_csi (pc := 5) a (As := [vI p1, vI 0, vI 199]) (rest := []) (fun sz => c_X7_in hinj hl0  h sz) (va_cwS 3 hts (gl_S (GL_8 _ (by decide +kernel)) (GL_8 _ (by decide +kernel)) (GL_1 _ (by decide +kernel)) (GL_8 _ (by decide +kernel))) rfl rfl rfl (by decide +kernel) ⟨Nat.le_of_ble_eq_true rfl, Nat.le_of_ble_eq_true rfl⟩) rfl rfl (Nat.le_of_ble_eq_true rfl) ⟨Nat.le_of_ble_eq_true rfl, Nat.le_of_ble_eq_true rfl⟩ dX7_linesAt_5 ?_
  rintro x1 s9 ⟨hs9, h9⟩
  subst s9
  replace h := h9
  clear h9
  refine a_if_eq (pc := 8) a h.1 dX7_linesAt_8 (tgt := 22) (by decide) (fun hq => ?_) (fun hq => ?_)
  · replace h := h.2.1 hq
    clear hq
    refine a_aload_n (pc := 22) a 0 dX7_linesAt_22 rfl rfl ?_
    refine a_iconst (pc := 23) a dX7_linesAt_23 ?_
    refine a_cvi (pc := 24) a (As := [vI 1]) (rest := []) tb vc7 (fun sz => c_X7_fails hinj hl0  h sz) (cwV 1 hts (gl_V (GL_8 _ (by decide +kernel)) (GL_8 _ (by decide +kernel)) (GL_8 _ (by decide +kernel)) (GL_1 _ (by decide +kernel)) (GL_8 _ (by decide +kernel))) rfl rfl rfl (by decide +kernel) ⟨Nat.le_of_ble_eq_true rfl, Nat.le_of_ble_eq_true rfl⟩) rfl rfl (Nat.le_of_ble_eq_true rfl) ⟨Nat.le_of_ble_eq_true rfl, Nat.le_of_ble_eq_true rfl⟩ dX7_linesAt_24 ?_
    clear h
    intro x2 s3 h
    exact e_i (pc := 27) a hr dX7_linesAt_27 h
  · replace h := h.2.2 hq
    clear hq
    refine a_iload_n (pc := 11) a 2 dX7_linesAt_11 rfl rfl ?_
    refine a_iconst (pc := 12) a dX7_linesAt_12 ?_
    refine a_sipush (pc := 13) a dX7_linesAt_13 (by decide) ?_
    refine a_csi (pc := 16) a (As := [vI p2, vI 0, vI 199]) (rest := []) (fun sz => c_X7_in hinj hl0  h sz) (va_cwS 3 hts (gl_S (GL_8 _ (by decide +kernel)) (GL_8 _ (by decide +kernel)) (GL_1 _ (by decide +kernel)) (GL_8 _ (by decide +kernel))) rfl rfl rfl (by decide +kernel) ⟨Nat.le_of_ble_eq_true rfl, Nat.le_of_ble_eq_true rfl⟩) rfl rfl (Nat.le_of_ble_eq_true rfl) ⟨Nat.le_of_ble_eq_true rfl, Nat.le_of_ble_eq_true rfl⟩ dX7_linesAt_16 ?_
    rintro x4 s9 ⟨hs9, h9⟩
    subst s9
    replace h := h9
    clear h9
    refine a_if_ne (pc := 19) a h.1 dX7_linesAt_19 (tgt := 28) (by decide) (fun hq => ?_) (fun hq => ?_)
    · replace h := h.2.1 hq
      clear hq
      refine a_aload_n (pc := 28) a 0 dX7_linesAt_28 rfl rfl ?_
      refine a_getR (pc := 29) a 3 3 rfl tb vc7 w2 w1 (by decide) (by decide) 4 (q := 165) rfl rfl dX7_linesAt_29 ?_
      refine a_aload_n (pc := 32) a 0 dX7_linesAt_32 rfl rfl ?_
      refine a_getR (pc := 33) a 0 0 rfl tb vc7 w2 w4 (by decide) (by decide) 1 (q := 162) rfl rfl dX7_linesAt_33 ?_
      refine a_csv (pc := 36) a (As := [Value.ref (ad 165), Value.ref (ad 162)]) (rest := []) (fun sz => c_X7_copies hinj hl0 w3 w5 h sz) (va_cwS 2 hts (gl_S (GL_8 _ (by decide +kernel)) (GL_8 _ (by decide +kernel)) (GL_1 _ (by decide +kernel)) (GL_8 _ (by decide +kernel))) rfl rfl rfl (by decide +kernel) ⟨Nat.le_of_ble_eq_true rfl, Nat.le_of_ble_eq_true rfl⟩) rfl rfl (Nat.le_of_ble_eq_true rfl) ⟨Nat.le_of_ble_eq_true rfl, Nat.le_of_ble_eq_true rfl⟩ dX7_linesAt_36 ?_
      clear h
      intro s5 h
      refine a_aload_n (pc := 39) a 0 dX7_linesAt_39 rfl rfl ?_
      refine a_getR (pc := 40) a 0 0 rfl tb vc7 w2 w4 (by decide) (by decide) 1 (q := 162) rfl rfl dX7_linesAt_40 ?_
      refine a_iconst (pc := 43) a dX7_linesAt_43 ?_
      refine a_iload_n (pc := 44) a 1 dX7_linesAt_44 rfl rfl ?_
      refine a_iast (pc := 45) a w5 (by decide) (by decide) dX7_linesAt_45 ?_
      refine a_nmS (fun s6 hx => ?_)
      replace h := h s6 hx
      clear hx
      refine a_aload_n (pc := 46) a 0 dX7_linesAt_46 rfl rfl ?_
      refine a_getR (pc := 47) a 0 0 rfl tb vc7 w2 w4 (by decide) (by decide) 1 (q := 162) rfl rfl dX7_linesAt_47 ?_
      refine a_iconst (pc := 50) a dX7_linesAt_50 ?_
      refine a_iload_n (pc := 51) a 2 dX7_linesAt_51 rfl rfl ?_
      refine a_iast (pc := 52) a w5 (by decide) (by decide) dX7_linesAt_52 ?_
      refine a_nmS (fun s7 hx => ?_)
      replace h := h s7 hx
      clear hx
      refine a_aload_n (pc := 53) a 0 dX7_linesAt_53 rfl rfl ?_
      refine a_cvv (pc := 54) a (As := []) (rest := []) tb vc7 (fun sz => c_X7_makes hinj hl0  h sz) (cwV 0 hts (gl_V (GL_21 _ (by decide +kernel)) (GL_21 _ (by decide +kernel)) (GL_22 _ (by decide +kernel)) (GL_1 _ (by decide +kernel)) (GL_22 _ (by decide +kernel))) rfl rfl rfl (by decide +kernel) ⟨Nat.le_of_ble_eq_true rfl, Nat.le_of_ble_eq_true rfl⟩) rfl rfl (Nat.le_of_ble_eq_true rfl) ⟨Nat.le_of_ble_eq_true rfl, Nat.le_of_ble_eq_true rfl⟩ dX7_linesAt_54 ?_
      clear h
      intro s8 h
      refine a_aload_n (pc := 57) a 0 dX7_linesAt_57 rfl rfl ?_
      refine a_getR (pc := 58) a 0 0 rfl tb vc7 w2 w4 (by decide) (by decide) 1 (q := 162) rfl rfl dX7_linesAt_58 ?_
      refine a_aload_n (pc := 61) a 0 dX7_linesAt_61 rfl rfl ?_
      refine a_getR (pc := 62) a 3 3 rfl tb vc7 w2 w1 (by decide) (by decide) 4 (q := 165) rfl rfl dX7_linesAt_62 ?_
      refine a_csv (pc := 65) a (As := [Value.ref (ad 162), Value.ref (ad 165)]) (rest := []) (fun sz => c_X7_copies hinj hl0 w5 w3 h sz) (va_cwS 2 hts (gl_S (GL_8 _ (by decide +kernel)) (GL_8 _ (by decide +kernel)) (GL_1 _ (by decide +kernel)) (GL_8 _ (by decide +kernel))) rfl rfl rfl (by decide +kernel) ⟨Nat.le_of_ble_eq_true rfl, Nat.le_of_ble_eq_true rfl⟩) rfl rfl (Nat.le_of_ble_eq_true rfl) ⟨Nat.le_of_ble_eq_true rfl, Nat.le_of_ble_eq_true rfl⟩ dX7_linesAt_65 ?_
      clear h
      intro s9 h
      refine a_aload_n (pc := 68) a 0 dX7_linesAt_68 rfl rfl ?_
      refine a_aload_n (pc := 69) a 0 dX7_linesAt_69 rfl rfl ?_
      refine a_getI (pc := 70) a 13 13 rfl tb vc7 w2 w6 (by decide) (by decide) rfl dX7_linesAt_70 ?_
      refine a_cvi (pc := 73) a (As := [vI (s9 161 13)]) (rest := []) tb vc7 (fun sz => c_X7_tells hinj hl0  h sz) (cwV 1 hts (gl_V (GL_8 _ (by decide +kernel)) (GL_8 _ (by decide +kernel)) (GL_8 _ (by decide +kernel)) (GL_1 _ (by decide +kernel)) (GL_9 _ (by decide +kernel))) rfl rfl rfl (by decide +kernel) ⟨Nat.le_of_ble_eq_true rfl, Nat.le_of_ble_eq_true rfl⟩) rfl rfl (Nat.le_of_ble_eq_true rfl) ⟨Nat.le_of_ble_eq_true rfl, Nat.le_of_ble_eq_true rfl⟩ dX7_linesAt_73 ?_
      clear h
      intro x10 s11 h
      exact e_i (pc := 76) a hr dX7_linesAt_76 h
    · replace h := h.2.2 hq
      clear hq
      refine a_aload_n (pc := 22) a 0 dX7_linesAt_22 rfl rfl ?_
      refine a_iconst (pc := 23) a dX7_linesAt_23 ?_
      refine a_cvi (pc := 24) a (As := [vI 1]) (rest := []) tb vc7 (fun sz => c_X7_fails hinj hl0  h sz) (cwV 1 hts (gl_V (GL_8 _ (by decide +kernel)) (GL_8 _ (by decide +kernel)) (GL_8 _ (by decide +kernel)) (GL_1 _ (by decide +kernel)) (GL_8 _ (by decide +kernel))) rfl rfl rfl (by decide +kernel) ⟨Nat.le_of_ble_eq_true rfl, Nat.le_of_ble_eq_true rfl⟩) rfl rfl (Nat.le_of_ble_eq_true rfl) ⟨Nat.le_of_ble_eq_true rfl, Nat.le_of_ble_eq_true rfl⟩ dX7_linesAt_24 ?_
      clear h
      intro x12 s13 h
      exact e_i (pc := 27) a hr dX7_linesAt_27 h

set_option maxRecDepth 100000 in
set_option maxHeartbeats 4000000 in
theorem c_X7_bestColumns {l : Launch} {D : va_G} {X : XI} {ad : Nat → Nat} (hinj : adI ad) (hl0 : l.stackTraces = false)   {σ : St} {K : Int → St → Prop} (h : f_X7_bestColumns σ K) (sz : Nat) : Met l yX7_bestColumns (WW (.code yX7_bestColumns cX7_bestColumns 6 (some .int))) { frames := 8, cells := 0, slots := 0, locals := 182 } (va_Pc [Value.ref (ad 161)] (WD D X ad σ sz)) (QI D X ad sz K) 0 0 (AA ad sz) := by
  refine a_start (cc := cX7_bestColumns) (maxL := 6) (ret := (some .int)) (own := RX7) [Value.ref (ad 161)] (by decide) rfl rfl (Nat.le_of_ble_eq_true rfl) hinj hl0 ?_
  intro p e s m below meth c a hr hsz
  subst hsz
  have hts := a.1.2.2.2.2
  have tb : tyc 161 (11, 0) := ⟨by decide, rfl⟩
  have w1 := hts (Cond.fieldLink RX7 7 "SightLegendModel" "s" "[I") (List.mem_cons_of_mem _ (GL_5 _ (by decide +kernel)))
  have w2 : ∀ w ∈ u_ws RX7 TX7 29, w ∈ WW (.code yX7_bestColumns cX7_bestColumns 6 (some .int)) := fun w h => List.mem_cons_of_mem _ (inlX7 w h)
  have w3 : tyc 162 (0, 311) := ty_of (d := 1) (t1 := (0, 311)) (by decide +kernel) rfl tb
  unfold f_X7_bestColumns at h
  refine a_sub (ls1 := [(0, Value.ref (ad 161))]) [0] rfl ?_
  refine a_aload_n (pc := 0) a 0 dX7_bestColumns_0 rfl rfl ?_
  refine a_getR (pc := 1) a 0 0 rfl tb vc7 w2 w1 (by decide) (by decide) 1 (q := 162) rfl rfl dX7_bestColumns_1 ?_
  refine a_iconst (pc := 4) a dX7_bestColumns_4 ?_
  refine a_iald (pc := 5) a w3 (by decide) (by decide) dX7_bestColumns_5 ?_
  refine a_nm (fun x1 hx => ?_)
  replace h := h x1 hx
  clear hx
  refine a_istore_n (pc := 6) a (ls1 := [(1, vI x1), (0, Value.ref (ad 161))]) dX7_bestColumns_6 rfl (by decide) rfl ?_
  refine a_iconst (pc := 7) a dX7_bestColumns_7 ?_
  refine a_istore_n (pc := 8) a (ls1 := [(2, vI 0), (1, vI x1), (0, Value.ref (ad 161))]) dX7_bestColumns_8 rfl (by decide) rfl ?_
  refine a_iconst (pc := 9) a dX7_bestColumns_9 ?_
  refine a_istore_n (pc := 10) a (ls1 := [(3, vI (-1)), (2, vI 0), (1, vI x1), (0, Value.ref (ad 161))]) dX7_bestColumns_10 rfl (by decide) rfl ?_
  refine a_iconst (pc := 11) a dX7_bestColumns_11 ?_
  refine a_istore (pc := 12) a (ls1 := [(4, vI 1), (3, vI (-1)), (2, vI 0), (1, vI x1), (0, Value.ref (ad 161))]) dX7_bestColumns_12 (by decide) rfl ?_
  refine a_sub (ls1 := [(0, Value.ref (ad 161)), (1, vI x1), (2, vI 0), (3, vI (-1)), (4, vI 1)]) [4, 3, 2, 1, 0] rfl ?_
  refine g_wl3s (fun x2 x3 x4 => [(0, Value.ref (ad 161)), (1, vI x1), (2, vI x2), (3, vI x3), (4, vI x4)]) h ?_
  clear h
  intro x2 x3 x4 s5 ag14 hag14 h
  refine a_iload (pc := 14) a 4 dX7_bestColumns_14 rfl ?_
  refine a_iconst (pc := 16) a dX7_bestColumns_16 ?_
  refine a_icmp_ge (pc := 17) a h.1 ⟨by decide, by decide⟩ dX7_bestColumns_17 (tgt := 70) (by decide) (fun hq => ?_) (fun hq => ?_)
  · replace h := h.2.1 hq
    clear hq
    refine a_aload_n (pc := 70) a 0 dX7_bestColumns_70 rfl rfl ?_
    refine a_getR (pc := 71) a 0 0 rfl tb vc7 w2 w1 (by decide) (by decide) 1 (q := 162) rfl rfl dX7_bestColumns_71 ?_
    refine a_iconst (pc := 74) a dX7_bestColumns_74 ?_
    refine a_iload_n (pc := 75) a 1 dX7_bestColumns_75 rfl rfl ?_
    refine a_iast (pc := 76) a w3 (by decide) (by decide) dX7_bestColumns_76 ?_
    refine a_nmS (fun s6 hx => ?_)
    replace h := h s6 hx
    clear hx
    refine a_aload_n (pc := 77) a 0 dX7_bestColumns_77 rfl rfl ?_
    refine a_iload_n (pc := 78) a 2 dX7_bestColumns_78 rfl rfl ?_
    refine a_cvi (pc := 79) a (As := [vI x2]) (rest := []) tb vc7 (fun sz => c_X7_tells hinj hl0  h sz) (cwV 1 hts (gl_V (GL_8 _ (by decide +kernel)) (GL_8 _ (by decide +kernel)) (GL_8 _ (by decide +kernel)) (GL_1 _ (by decide +kernel)) (GL_9 _ (by decide +kernel))) rfl rfl rfl (by decide +kernel) ⟨Nat.le_of_ble_eq_true rfl, Nat.le_of_ble_eq_true rfl⟩) rfl rfl (Nat.le_of_ble_eq_true rfl) ⟨Nat.le_of_ble_eq_true rfl, Nat.le_of_ble_eq_true rfl⟩ dX7_bestColumns_79 ?_
    clear h
    intro x7 s8 h
    exact e_i (pc := 82) a hr dX7_bestColumns_82 h
  · replace h := h.2.2 hq
    clear hq
    refine a_aload_n (pc := 20) a 0 dX7_bestColumns_20 rfl rfl ?_
    refine a_getR (pc := 21) a 0 0 rfl tb vc7 w2 w1 (by decide) (by decide) 1 (q := 162) rfl rfl dX7_bestColumns_21 ?_
    refine a_iconst (pc := 24) a dX7_bestColumns_24 ?_
    refine a_iload (pc := 25) a 4 dX7_bestColumns_25 rfl ?_
    refine a_iast (pc := 27) a w3 (by decide) (by decide) dX7_bestColumns_27 ?_
    refine a_nmS (fun s9 hx => ?_)
    replace h := h s9 hx
    clear hx
    refine a_aload_n (pc := 28) a 0 dX7_bestColumns_28 rfl rfl ?_
    refine a_cvv (pc := 29) a (As := []) (rest := []) tb vc7 (fun sz => c_X7_makes hinj hl0  h sz) (cwV 0 hts (gl_V (GL_21 _ (by decide +kernel)) (GL_21 _ (by decide +kernel)) (GL_22 _ (by decide +kernel)) (GL_1 _ (by decide +kernel)) (GL_22 _ (by decide +kernel))) rfl rfl rfl (by decide +kernel) ⟨Nat.le_of_ble_eq_true rfl, Nat.le_of_ble_eq_true rfl⟩) rfl rfl (Nat.le_of_ble_eq_true rfl) ⟨Nat.le_of_ble_eq_true rfl, Nat.le_of_ble_eq_true rfl⟩ dX7_bestColumns_29 ?_
    clear h
    intro s10 h
    refine a_aload_n (pc := 32) a 0 dX7_bestColumns_32 rfl rfl ?_
    refine a_cvi (pc := 33) a (As := []) (rest := []) tb vc7 (fun sz => c_X7_explainedMany hinj hl0  h sz) (cwV 0 hts (gl_V (GL_25 _ (by decide +kernel)) (GL_25 _ (by decide +kernel)) (GL_25 _ (by decide +kernel)) (GL_1 _ (by decide +kernel)) (GL_25 _ (by decide +kernel))) rfl rfl rfl (by decide +kernel) ⟨Nat.le_of_ble_eq_true rfl, Nat.le_of_ble_eq_true rfl⟩) rfl rfl (Nat.le_of_ble_eq_true rfl) ⟨Nat.le_of_ble_eq_true rfl, Nat.le_of_ble_eq_true rfl⟩ dX7_bestColumns_33 ?_
    rintro x11 s9 ⟨hs9, h9⟩
    subst s9
    replace h := h9
    clear h9
    refine a_istore (pc := 36) a (ls1 := [(5, vI x11), (0, Value.ref (ad 161)), (1, vI x1), (2, vI x2), (3, vI x3), (4, vI x4)]) dX7_bestColumns_36 (by decide) rfl ?_
    refine a_iload (pc := 38) a 0 dX7_bestColumns_38 rfl ?_
    refine a_iload_n (pc := 40) a 4 dX7_bestColumns_40 rfl rfl ?_
    refine g_wj1 50 0 0 (fun x13 => [(0, Value.ref (ad 161)), (1, vI x1), (3, vI x3), (4, vI x4), (5, vI x11)]) (fun x13 => [vI x13]) h ?_ ?_
    · clear h
      intro x13 h
      refine a_istore_n (pc := 50) a (ls1 := [(2, vI x13), (0, Value.ref (ad 161)), (1, vI x1), (3, vI x3), (4, vI x4), (5, vI x11)]) dX7_bestColumns_50 rfl (by decide) rfl ?_
      refine a_iload (pc := 51) a 5 dX7_bestColumns_51 rfl ?_
      refine a_iload_n (pc := 53) a 3 dX7_bestColumns_53 rfl rfl ?_
      refine a_icmp_le (pc := 54) a h.1 h.2.1 dX7_bestColumns_54 (tgt := 62) (by decide) (fun hq => ?_) (fun hq => ?_)
      · replace h := h.2.2.1 hq
        clear hq
        refine a_iload_n (pc := 62) a 3 dX7_bestColumns_62 rfl rfl ?_
        refine a_istore_n (pc := 63) a (ls1 := [(3, vI x3), (2, vI x13), (0, Value.ref (ad 161)), (1, vI x1), (4, vI x4), (5, vI x11)]) dX7_bestColumns_63 rfl (by decide) rfl ?_
        refine a_iinc (pc := 64) a (ls1 := [(4, vI (x4 + 1)), (3, vI x3), (2, vI x13), (0, Value.ref (ad 161)), (1, vI x1), (5, vI x11)]) 4 dX7_bestColumns_64 rfl (by decide) rfl ?_
        refine a_goto (pc := 67) a dX7_bestColumns_67 (tgt := 14) (by decide) ?_
        refine a_sub (ls1 := [(0, Value.ref (ad 161)), (1, vI x1), (2, vI x13), (3, vI x3), (4, vI (x4 + 1))]) [3, 4, 2, 1, 0] rfl ?_
        exact hag14 x13 x3 (x4 + 1) s10 h
      · replace h := h.2.2.2 hq
        clear hq
        refine a_iload (pc := 57) a 5 dX7_bestColumns_57 rfl ?_
        refine a_goto (pc := 59) a dX7_bestColumns_59 (tgt := 63) (by decide) ?_
        refine a_istore_n (pc := 63) a (ls1 := [(3, vI x11), (2, vI x13), (0, Value.ref (ad 161)), (1, vI x1), (4, vI x4), (5, vI x11)]) dX7_bestColumns_63 rfl (by decide) rfl ?_
        refine a_iinc (pc := 64) a (ls1 := [(4, vI (x4 + 1)), (3, vI x11), (2, vI x13), (0, Value.ref (ad 161)), (1, vI x1), (5, vI x11)]) 4 dX7_bestColumns_64 rfl (by decide) rfl ?_
        refine a_goto (pc := 67) a dX7_bestColumns_67 (tgt := 14) (by decide) ?_
        refine a_sub (ls1 := [(0, Value.ref (ad 161)), (1, vI x1), (2, vI x13), (3, vI x11), (4, vI (x4 + 1))]) [3, 4, 2, 1, 0] rfl ?_
        exact hag14 x13 x11 (x4 + 1) s10 h
    · clear h
      intro jj50 hjj50 h
      refine a_icmp_le (pc := 41) a h.1 h.2.1 dX7_bestColumns_41 (tgt := 49) (by decide) (fun hq => ?_) (fun hq => ?_)
      · replace h := h.2.2.1 hq
        clear hq
        refine a_iload_n (pc := 49) a 3 dX7_bestColumns_49 rfl rfl ?_
        refine a_sub (ls1 := [(0, Value.ref (ad 161)), (1, vI x1), (3, vI x3), (4, vI x4), (5, vI x11)]) [1, 2, 4, 5, 0] rfl ?_
        exact hjj50 x2 h
      · replace h := h.2.2.2 hq
        clear hq
        refine a_iload (pc := 44) a 5 dX7_bestColumns_44 rfl ?_
        refine a_goto (pc := 46) a dX7_bestColumns_46 (tgt := 50) (by decide) ?_
        refine a_sub (ls1 := [(0, Value.ref (ad 161)), (1, vI x1), (3, vI x3), (4, vI x4), (5, vI x11)]) [1, 2, 4, 5, 0] rfl ?_
        exact hjj50 x4 h

set_option maxRecDepth 100000 in
set_option maxHeartbeats 4000000 in
theorem c_X7_zoomFor {l : Launch} {D : va_G} {X : XI} {ad : Nat → Nat} (hinj : adI ad) (hl0 : l.stackTraces = false) {p1 : Int}  {σ : St} {K : Int → St → Prop} (h : f_X7_zoomFor p1 σ K) (sz : Nat) : Met l yX7_zoomFor (WW (.code yX7_zoomFor cX7_zoomFor 4 (some .int))) { frames := 2, cells := 0, slots := 0, locals := 43 } (va_Pc [Value.ref (ad 161), vI p1] (WD D X ad σ sz)) (QI D X ad sz K) 0 0 (AA ad sz) := by
  refine a_start (cc := cX7_zoomFor) (maxL := 4) (ret := (some .int)) (own := RX7) [Value.ref (ad 161), vI p1] (by decide) rfl rfl (Nat.le_of_ble_eq_true rfl) hinj hl0 ?_
  intro p e s m below meth c a hr hsz
  subst hsz
  have hts := a.1.2.2.2.2
  have tb : tyc 161 (11, 0) := ⟨by decide, rfl⟩
  have w1 := hts (Cond.fieldLink RX7 7 "SightLegendModel" "s" "[I") (List.mem_cons_of_mem _ (GL_5 _ (by decide +kernel)))
  have w2 : ∀ w ∈ u_ws RX7 TX7 29, w ∈ WW (.code yX7_zoomFor cX7_zoomFor 4 (some .int)) := fun w h => List.mem_cons_of_mem _ (inlX7 w h)
  have w3 : tyc 162 (0, 311) := ty_of (d := 1) (t1 := (0, 311)) (by decide +kernel) rfl tb
  unfold f_X7_zoomFor at h
  refine a_sub (ls1 := [(0, Value.ref (ad 161)), (1, vI p1)]) [0, 1] rfl ?_
  refine a_iload_n (pc := 0) a 1 dX7_zoomFor_0 rfl rfl ?_
  refine a_csi (pc := 1) a (As := [vI p1]) (rest := []) (fun sz => c_X7_isKind hinj hl0  h sz) (va_cwS 1 hts (gl_S (GL_7 _ (by decide +kernel)) (GL_7 _ (by decide +kernel)) (GL_1 _ (by decide +kernel)) (GL_8 _ (by decide +kernel))) rfl rfl rfl (by decide +kernel) ⟨Nat.le_of_ble_eq_true rfl, Nat.le_of_ble_eq_true rfl⟩) rfl rfl (Nat.le_of_ble_eq_true rfl) ⟨Nat.le_of_ble_eq_true rfl, Nat.le_of_ble_eq_true rfl⟩ dX7_zoomFor_1 ?_
  rintro x1 s9 ⟨hs9, h9⟩
  subst s9
  replace h := h9
  clear h9
  refine a_if_ne (pc := 4) a h.1 dX7_zoomFor_4 (tgt := 13) (by decide) (fun hq => ?_) (fun hq => ?_)
  · replace h := h.2.1 hq
    clear hq
    refine a_iconst (pc := 13) a dX7_zoomFor_13 ?_
    refine a_istore_n (pc := 14) a (ls1 := [(2, vI 0), (0, Value.ref (ad 161)), (1, vI p1)]) dX7_zoomFor_14 rfl (by decide) rfl ?_
    refine a_iconst (pc := 15) a dX7_zoomFor_15 ?_
    refine a_istore_n (pc := 16) a (ls1 := [(3, vI 0), (2, vI 0), (0, Value.ref (ad 161)), (1, vI p1)]) dX7_zoomFor_16 rfl (by decide) rfl ?_
    refine a_sub (ls1 := [(0, Value.ref (ad 161)), (1, vI p1), (2, vI 0), (3, vI 0)]) [2, 3, 1, 0] rfl ?_
    refine g_wl2 (fun x2 x3 => [(0, Value.ref (ad 161)), (1, vI p1), (2, vI x2), (3, vI x3)]) h ?_
    clear h
    intro x2 x3 ag17 hag17 h
    refine a_iload_n (pc := 17) a 3 dX7_zoomFor_17 rfl rfl ?_
    refine a_aload_n (pc := 18) a 0 dX7_zoomFor_18 rfl rfl ?_
    refine a_getR (pc := 19) a 0 0 rfl tb vc7 w2 w1 (by decide) (by decide) 1 (q := 162) rfl rfl dX7_zoomFor_19 ?_
    refine a_bipush (pc := 22) a dX7_zoomFor_22 (by decide) ?_
    refine a_iald (pc := 24) a w3 (by decide) (by decide) dX7_zoomFor_24 ?_
    refine a_icmp_ge (pc := 25) a h.1 h.2.1 dX7_zoomFor_25 (tgt := 73) (by decide) (fun hq => ?_) (fun hq => ?_)
    · replace h := h.2.2.1 hq
      clear hq
      refine a_aload_n (pc := 73) a 0 dX7_zoomFor_73 rfl rfl ?_
      refine a_iload_n (pc := 74) a 2 dX7_zoomFor_74 rfl rfl ?_
      refine a_cvi (pc := 75) a (As := [vI x2]) (rest := []) tb vc7 (fun sz => c_X7_tells hinj hl0  h sz) (cwV 1 hts (gl_V (GL_8 _ (by decide +kernel)) (GL_8 _ (by decide +kernel)) (GL_8 _ (by decide +kernel)) (GL_1 _ (by decide +kernel)) (GL_9 _ (by decide +kernel))) rfl rfl rfl (by decide +kernel) ⟨Nat.le_of_ble_eq_true rfl, Nat.le_of_ble_eq_true rfl⟩) rfl rfl (Nat.le_of_ble_eq_true rfl) ⟨Nat.le_of_ble_eq_true rfl, Nat.le_of_ble_eq_true rfl⟩ dX7_zoomFor_75 ?_
      clear h
      intro x4 s5 h
      exact e_i (pc := 78) a hr dX7_zoomFor_78 h
    · replace h := h.2.2.2 hq
      clear hq
      refine a_aload_n (pc := 28) a 0 dX7_zoomFor_28 rfl rfl ?_
      refine a_iload_n (pc := 29) a 3 dX7_zoomFor_29 rfl rfl ?_
      refine a_iconst (pc := 30) a dX7_zoomFor_30 ?_
      refine a_cvi (pc := 31) a (As := [vI x3, vI 0]) (rest := []) tb vc7 (fun sz => c_X7_of hinj hl0  h sz) (cwV 2 hts (gl_V (GL_10 _ (by decide +kernel)) (GL_10 _ (by decide +kernel)) (GL_10 _ (by decide +kernel)) (GL_1 _ (by decide +kernel)) (GL_11 _ (by decide +kernel))) rfl rfl rfl (by decide +kernel) ⟨Nat.le_of_ble_eq_true rfl, Nat.le_of_ble_eq_true rfl⟩) rfl rfl (Nat.le_of_ble_eq_true rfl) ⟨Nat.le_of_ble_eq_true rfl, Nat.le_of_ble_eq_true rfl⟩ dX7_zoomFor_31 ?_
      rintro x6 s9 ⟨hs9, h9⟩
      subst s9
      replace h := h9
      clear h9
      refine a_iload_n (pc := 34) a 1 dX7_zoomFor_34 rfl rfl ?_
      refine a_icmp_ne (pc := 35) a h.1 h.2.1 dX7_zoomFor_35 (tgt := 65) (by decide) (fun hq => ?_) (fun hq => ?_)
      · replace h := h.2.2.1 hq
        clear hq
        refine a_iload_n (pc := 65) a 2 dX7_zoomFor_65 rfl rfl ?_
        refine a_istore_n (pc := 66) a (ls1 := [(2, vI x2), (0, Value.ref (ad 161)), (1, vI p1), (3, vI x3)]) dX7_zoomFor_66 rfl (by decide) rfl ?_
        refine a_iinc (pc := 67) a (ls1 := [(3, vI (x3 + 1)), (2, vI x2), (0, Value.ref (ad 161)), (1, vI p1)]) 3 dX7_zoomFor_67 rfl (by decide) rfl ?_
        refine a_goto (pc := 70) a dX7_zoomFor_70 (tgt := 17) (by decide) ?_
        refine a_sub (ls1 := [(0, Value.ref (ad 161)), (1, vI p1), (2, vI x2), (3, vI (x3 + 1))]) [2, 3, 1, 0] rfl ?_
        exact hag17 x2 (x3 + 1) h
      · replace h := h.2.2.2 hq
        clear hq
        refine a_aload_n (pc := 38) a 0 dX7_zoomFor_38 rfl rfl ?_
        refine a_iload_n (pc := 39) a 3 dX7_zoomFor_39 rfl rfl ?_
        refine a_cvi (pc := 40) a (As := [vI x3]) (rest := []) tb vc7 (fun sz => c_X7_isWithin hinj hl0  h sz) (cwV 1 hts (gl_V (GL_12 _ (by decide +kernel)) (GL_12 _ (by decide +kernel)) (GL_12 _ (by decide +kernel)) (GL_1 _ (by decide +kernel)) (GL_12 _ (by decide +kernel))) rfl rfl rfl (by decide +kernel) ⟨Nat.le_of_ble_eq_true rfl, Nat.le_of_ble_eq_true rfl⟩) rfl rfl (Nat.le_of_ble_eq_true rfl) ⟨Nat.le_of_ble_eq_true rfl, Nat.le_of_ble_eq_true rfl⟩ dX7_zoomFor_40 ?_
        rintro x7 s9 ⟨hs9, h9⟩
        subst s9
        replace h := h9
        clear h9
        refine a_if_eq (pc := 43) a h.1 dX7_zoomFor_43 (tgt := 65) (by decide) (fun hq => ?_) (fun hq => ?_)
        · replace h := h.2.1 hq
          clear hq
          refine a_iload_n (pc := 65) a 2 dX7_zoomFor_65 rfl rfl ?_
          refine a_istore_n (pc := 66) a (ls1 := [(2, vI x2), (0, Value.ref (ad 161)), (1, vI p1), (3, vI x3)]) dX7_zoomFor_66 rfl (by decide) rfl ?_
          refine a_iinc (pc := 67) a (ls1 := [(3, vI (x3 + 1)), (2, vI x2), (0, Value.ref (ad 161)), (1, vI p1)]) 3 dX7_zoomFor_67 rfl (by decide) rfl ?_
          refine a_goto (pc := 70) a dX7_zoomFor_70 (tgt := 17) (by decide) ?_
          refine a_sub (ls1 := [(0, Value.ref (ad 161)), (1, vI p1), (2, vI x2), (3, vI (x3 + 1))]) [2, 3, 1, 0] rfl ?_
          exact hag17 x2 (x3 + 1) h
        · replace h := h.2.2 hq
          clear hq
          refine a_aload_n (pc := 46) a 0 dX7_zoomFor_46 rfl rfl ?_
          refine a_iload_n (pc := 47) a 3 dX7_zoomFor_47 rfl rfl ?_
          refine a_iconst (pc := 48) a dX7_zoomFor_48 ?_
          refine a_cvi (pc := 49) a (As := [vI x3, vI 4]) (rest := []) tb vc7 (fun sz => c_X7_of hinj hl0  h sz) (cwV 2 hts (gl_V (GL_10 _ (by decide +kernel)) (GL_10 _ (by decide +kernel)) (GL_10 _ (by decide +kernel)) (GL_1 _ (by decide +kernel)) (GL_11 _ (by decide +kernel))) rfl rfl rfl (by decide +kernel) ⟨Nat.le_of_ble_eq_true rfl, Nat.le_of_ble_eq_true rfl⟩) rfl rfl (Nat.le_of_ble_eq_true rfl) ⟨Nat.le_of_ble_eq_true rfl, Nat.le_of_ble_eq_true rfl⟩ dX7_zoomFor_49 ?_
          rintro x8 s9 ⟨hs9, h9⟩
          subst s9
          replace h := h9
          clear h9
          refine a_iload_n (pc := 52) a 2 dX7_zoomFor_52 rfl rfl ?_
          refine a_icmp_le (pc := 53) a h.1 h.2.1 dX7_zoomFor_53 (tgt := 65) (by decide) (fun hq => ?_) (fun hq => ?_)
          · replace h := h.2.2.1 hq
            clear hq
            refine a_iload_n (pc := 65) a 2 dX7_zoomFor_65 rfl rfl ?_
            refine a_istore_n (pc := 66) a (ls1 := [(2, vI x2), (0, Value.ref (ad 161)), (1, vI p1), (3, vI x3)]) dX7_zoomFor_66 rfl (by decide) rfl ?_
            refine a_iinc (pc := 67) a (ls1 := [(3, vI (x3 + 1)), (2, vI x2), (0, Value.ref (ad 161)), (1, vI p1)]) 3 dX7_zoomFor_67 rfl (by decide) rfl ?_
            refine a_goto (pc := 70) a dX7_zoomFor_70 (tgt := 17) (by decide) ?_
            refine a_sub (ls1 := [(0, Value.ref (ad 161)), (1, vI p1), (2, vI x2), (3, vI (x3 + 1))]) [2, 3, 1, 0] rfl ?_
            exact hag17 x2 (x3 + 1) h
          · replace h := h.2.2.2 hq
            clear hq
            refine a_aload_n (pc := 56) a 0 dX7_zoomFor_56 rfl rfl ?_
            refine a_iload_n (pc := 57) a 3 dX7_zoomFor_57 rfl rfl ?_
            refine a_iconst (pc := 58) a dX7_zoomFor_58 ?_
            refine a_cvi (pc := 59) a (As := [vI x3, vI 4]) (rest := []) tb vc7 (fun sz => c_X7_of hinj hl0  h sz) (cwV 2 hts (gl_V (GL_10 _ (by decide +kernel)) (GL_10 _ (by decide +kernel)) (GL_10 _ (by decide +kernel)) (GL_1 _ (by decide +kernel)) (GL_11 _ (by decide +kernel))) rfl rfl rfl (by decide +kernel) ⟨Nat.le_of_ble_eq_true rfl, Nat.le_of_ble_eq_true rfl⟩) rfl rfl (Nat.le_of_ble_eq_true rfl) ⟨Nat.le_of_ble_eq_true rfl, Nat.le_of_ble_eq_true rfl⟩ dX7_zoomFor_59 ?_
            rintro x9 s9 ⟨hs9, h9⟩
            subst s9
            replace h := h9
            clear h9
            refine a_goto (pc := 62) a dX7_zoomFor_62 (tgt := 66) (by decide) ?_
            refine a_istore_n (pc := 66) a (ls1 := [(2, vI x9), (0, Value.ref (ad 161)), (1, vI p1), (3, vI x3)]) dX7_zoomFor_66 rfl (by decide) rfl ?_
            refine a_iinc (pc := 67) a (ls1 := [(3, vI (x3 + 1)), (2, vI x9), (0, Value.ref (ad 161)), (1, vI p1)]) 3 dX7_zoomFor_67 rfl (by decide) rfl ?_
            refine a_goto (pc := 70) a dX7_zoomFor_70 (tgt := 17) (by decide) ?_
            refine a_sub (ls1 := [(0, Value.ref (ad 161)), (1, vI p1), (2, vI x9), (3, vI (x3 + 1))]) [2, 3, 1, 0] rfl ?_
            exact hag17 x9 (x3 + 1) h
  · replace h := h.2.2 hq
    clear hq
    refine a_aload_n (pc := 7) a 0 dX7_zoomFor_7 rfl rfl ?_
    refine a_iconst (pc := 8) a dX7_zoomFor_8 ?_
    refine a_cvi (pc := 9) a (As := [vI 1]) (rest := []) tb vc7 (fun sz => c_X7_fails hinj hl0  h sz) (cwV 1 hts (gl_V (GL_8 _ (by decide +kernel)) (GL_8 _ (by decide +kernel)) (GL_8 _ (by decide +kernel)) (GL_1 _ (by decide +kernel)) (GL_8 _ (by decide +kernel))) rfl rfl rfl (by decide +kernel) ⟨Nat.le_of_ble_eq_true rfl, Nat.le_of_ble_eq_true rfl⟩) rfl rfl (Nat.le_of_ble_eq_true rfl) ⟨Nat.le_of_ble_eq_true rfl, Nat.le_of_ble_eq_true rfl⟩ dX7_zoomFor_9 ?_
    clear h
    intro x10 s11 h
    exact e_i (pc := 12) a hr dX7_zoomFor_12 h

set_option maxRecDepth 100000 in
set_option maxHeartbeats 4000000 in
theorem c_X7_linesSaved {l : Launch} {D : va_G} {X : XI} {ad : Nat → Nat} (hinj : adI ad) (hl0 : l.stackTraces = false) {p1 : Int}  {σ : St} {K : Int → St → Prop} (h : f_X7_linesSaved p1 σ K) (sz : Nat) : Met l yX7_linesSaved (WW (.code yX7_linesSaved cX7_linesSaved 3 (some .int))) { frames := 8, cells := 0, slots := 0, locals := 182 } (va_Pc [Value.ref (ad 161), vI p1] (WD D X ad σ sz)) (QI D X ad sz K) 0 0 (AA ad sz) := by
  refine a_start (cc := cX7_linesSaved) (maxL := 3) (ret := (some .int)) (own := RX7) [Value.ref (ad 161), vI p1] (by decide) rfl rfl (Nat.le_of_ble_eq_true rfl) hinj hl0 ?_
  intro p e s m below meth c a hr hsz
  subst hsz
  have hts := a.1.2.2.2.2
  have tb : tyc 161 (11, 0) := ⟨by decide, rfl⟩
  have w1 := hts (Cond.fieldLink RX7 83 "SightLegendModel" "lines" "I") (List.mem_cons_of_mem _ (GL_22 _ (by decide +kernel)))
  have w2 : ∀ w ∈ u_ws RX7 TX7 29, w ∈ WW (.code yX7_linesSaved cX7_linesSaved 3 (some .int)) := fun w h => List.mem_cons_of_mem _ (inlX7 w h)
  have w3 := hts (Cond.fieldLink RX7 19 "SightLegendModel" "kept" "[I") (List.mem_cons_of_mem _ (GL_5 _ (by decide +kernel)))
  have w4 : tyc 165 (0, 311) := ty_of (d := 4) (t1 := (0, 311)) (by decide +kernel) rfl tb
  have w5 := hts (Cond.fieldLink RX7 7 "SightLegendModel" "s" "[I") (List.mem_cons_of_mem _ (GL_5 _ (by decide +kernel)))
  have w6 : tyc 162 (0, 311) := ty_of (d := 1) (t1 := (0, 311)) (by decide +kernel) rfl tb
  unfold f_X7_linesSaved at h
  refine a_sub (ls1 := [(0, Value.ref (ad 161)), (1, vI p1)]) [0, 1] rfl ?_
  refine a_aload_n (pc := 0) a 0 dX7_linesSaved_0 rfl rfl ?_
  refine a_iload_n (pc := 1) a 1 dX7_linesSaved_1 rfl rfl ?_
  refine a_cvi (pc := 2) a (As := [vI p1]) (rest := []) tb vc7 (fun sz => c_X7_isSign hinj hl0  h sz) (cwV 1 hts (gl_V (GL_10 _ (by decide +kernel)) (GL_10 _ (by decide +kernel)) (GL_10 _ (by decide +kernel)) (GL_1 _ (by decide +kernel)) (GL_10 _ (by decide +kernel))) rfl rfl rfl (by decide +kernel) ⟨Nat.le_of_ble_eq_true rfl, Nat.le_of_ble_eq_true rfl⟩) rfl rfl (Nat.le_of_ble_eq_true rfl) ⟨Nat.le_of_ble_eq_true rfl, Nat.le_of_ble_eq_true rfl⟩ dX7_linesSaved_2 ?_
  rintro x1 s9 ⟨hs9, h9⟩
  subst s9
  replace h := h9
  clear h9
  refine a_if_ne (pc := 5) a h.1 dX7_linesSaved_5 (tgt := 14) (by decide) (fun hq => ?_) (fun hq => ?_)
  · replace h := h.2.1 hq
    clear hq
    refine a_aload_n (pc := 14) a 0 dX7_linesSaved_14 rfl rfl ?_
    refine a_cvv (pc := 15) a (As := []) (rest := []) tb vc7 (fun sz => c_X7_makes hinj hl0  h sz) (cwV 0 hts (gl_V (GL_21 _ (by decide +kernel)) (GL_21 _ (by decide +kernel)) (GL_22 _ (by decide +kernel)) (GL_1 _ (by decide +kernel)) (GL_22 _ (by decide +kernel))) rfl rfl rfl (by decide +kernel) ⟨Nat.le_of_ble_eq_true rfl, Nat.le_of_ble_eq_true rfl⟩) rfl rfl (Nat.le_of_ble_eq_true rfl) ⟨Nat.le_of_ble_eq_true rfl, Nat.le_of_ble_eq_true rfl⟩ dX7_linesSaved_15 ?_
    clear h
    intro s2 h
    refine a_aload_n (pc := 18) a 0 dX7_linesSaved_18 rfl rfl ?_
    refine a_getI (pc := 19) a 13 13 rfl tb vc7 w2 w1 (by decide) (by decide) rfl dX7_linesSaved_19 ?_
    refine a_nm (fun x3 hx => ?_)
    replace h := h x3 hx
    clear hx
    refine a_istore_n (pc := 22) a (ls1 := [(2, vI x3), (0, Value.ref (ad 161)), (1, vI p1)]) dX7_linesSaved_22 rfl (by decide) rfl ?_
    refine a_aload_n (pc := 23) a 1 dX7_linesSaved_23 rfl rfl ?_
    refine a_getR (pc := 24) a 3 3 rfl tb vc7 w2 w3 (by decide) (by decide) 4 (q := 165) rfl rfl dX7_linesSaved_24 ?_
    refine a_aload_n (pc := 27) a 1 dX7_linesSaved_27 rfl rfl ?_
    refine a_getR (pc := 28) a 0 0 rfl tb vc7 w2 w5 (by decide) (by decide) 1 (q := 162) rfl rfl dX7_linesSaved_28 ?_
    refine a_csv (pc := 31) a (As := [Value.ref (ad 165), Value.ref (ad 162)]) (rest := []) (fun sz => c_X7_copies hinj hl0 w4 w6 h sz) (va_cwS 2 hts (gl_S (GL_8 _ (by decide +kernel)) (GL_8 _ (by decide +kernel)) (GL_1 _ (by decide +kernel)) (GL_8 _ (by decide +kernel))) rfl rfl rfl (by decide +kernel) ⟨Nat.le_of_ble_eq_true rfl, Nat.le_of_ble_eq_true rfl⟩) rfl rfl (Nat.le_of_ble_eq_true rfl) ⟨Nat.le_of_ble_eq_true rfl, Nat.le_of_ble_eq_true rfl⟩ dX7_linesSaved_31 ?_
    clear h
    intro s4 h
    refine a_aload_n (pc := 34) a 1 dX7_linesSaved_34 rfl rfl ?_
    refine a_iload_n (pc := 35) a 2 dX7_linesSaved_35 rfl rfl ?_
    refine a_cvv (pc := 36) a (As := [vI p1]) (rest := []) tb vc7 (fun sz => c_X7_drops hinj hl0  h sz) (cwV 1 hts (gl_V (GL_10 _ (by decide +kernel)) (GL_10 _ (by decide +kernel)) (GL_10 _ (by decide +kernel)) (GL_1 _ (by decide +kernel)) (GL_10 _ (by decide +kernel))) rfl rfl rfl (by decide +kernel) ⟨Nat.le_of_ble_eq_true rfl, Nat.le_of_ble_eq_true rfl⟩) rfl rfl (Nat.le_of_ble_eq_true rfl) ⟨Nat.le_of_ble_eq_true rfl, Nat.le_of_ble_eq_true rfl⟩ dX7_linesSaved_36 ?_
    clear h
    intro s5 h
    refine a_aload_n (pc := 39) a 1 dX7_linesSaved_39 rfl rfl ?_
    refine a_cvv (pc := 40) a (As := []) (rest := []) tb vc7 (fun sz => c_X7_makes hinj hl0  h sz) (cwV 0 hts (gl_V (GL_21 _ (by decide +kernel)) (GL_21 _ (by decide +kernel)) (GL_22 _ (by decide +kernel)) (GL_1 _ (by decide +kernel)) (GL_22 _ (by decide +kernel))) rfl rfl rfl (by decide +kernel) ⟨Nat.le_of_ble_eq_true rfl, Nat.le_of_ble_eq_true rfl⟩) rfl rfl (Nat.le_of_ble_eq_true rfl) ⟨Nat.le_of_ble_eq_true rfl, Nat.le_of_ble_eq_true rfl⟩ dX7_linesSaved_40 ?_
    clear h
    intro s6 h
    refine a_aload_n (pc := 43) a 1 dX7_linesSaved_43 rfl rfl ?_
    refine a_getR (pc := 44) a 0 0 rfl tb vc7 w2 w5 (by decide) (by decide) 1 (q := 162) rfl rfl dX7_linesSaved_44 ?_
    refine a_aload_n (pc := 47) a 1 dX7_linesSaved_47 rfl rfl ?_
    refine a_getR (pc := 48) a 3 3 rfl tb vc7 w2 w3 (by decide) (by decide) 4 (q := 165) rfl rfl dX7_linesSaved_48 ?_
    refine a_csv (pc := 51) a (As := [Value.ref (ad 162), Value.ref (ad 165)]) (rest := []) (fun sz => c_X7_copies hinj hl0 w6 w4 h sz) (va_cwS 2 hts (gl_S (GL_8 _ (by decide +kernel)) (GL_8 _ (by decide +kernel)) (GL_1 _ (by decide +kernel)) (GL_8 _ (by decide +kernel))) rfl rfl rfl (by decide +kernel) ⟨Nat.le_of_ble_eq_true rfl, Nat.le_of_ble_eq_true rfl⟩) rfl rfl (Nat.le_of_ble_eq_true rfl) ⟨Nat.le_of_ble_eq_true rfl, Nat.le_of_ble_eq_true rfl⟩ dX7_linesSaved_51 ?_
    clear h
    intro s7 h
    refine a_aload_n (pc := 54) a 1 dX7_linesSaved_54 rfl rfl ?_
    refine a_iload_n (pc := 55) a 0 dX7_linesSaved_55 rfl rfl ?_
    refine a_aload_n (pc := 56) a 1 dX7_linesSaved_56 rfl rfl ?_
    refine a_getI (pc := 57) a 13 13 rfl tb vc7 w2 w1 (by decide) (by decide) rfl dX7_linesSaved_57 ?_
    refine a_isub (pc := 60) a dX7_linesSaved_60 ?_
    refine a_cvi (pc := 61) a (As := [vI (x3 - (s7 161 13))]) (rest := []) tb vc7 (fun sz => c_X7_tells hinj hl0  h sz) (cwV 1 hts (gl_V (GL_8 _ (by decide +kernel)) (GL_8 _ (by decide +kernel)) (GL_8 _ (by decide +kernel)) (GL_1 _ (by decide +kernel)) (GL_9 _ (by decide +kernel))) rfl rfl rfl (by decide +kernel) ⟨Nat.le_of_ble_eq_true rfl, Nat.le_of_ble_eq_true rfl⟩) rfl rfl (Nat.le_of_ble_eq_true rfl) ⟨Nat.le_of_ble_eq_true rfl, Nat.le_of_ble_eq_true rfl⟩ dX7_linesSaved_61 ?_
    clear h
    intro x8 s9 h
    exact e_i (pc := 64) a hr dX7_linesSaved_64 h
  · replace h := h.2.2 hq
    clear hq
    refine a_aload_n (pc := 8) a 0 dX7_linesSaved_8 rfl rfl ?_
    refine a_iconst (pc := 9) a dX7_linesSaved_9 ?_
    refine a_cvi (pc := 10) a (As := [vI 1]) (rest := []) tb vc7 (fun sz => c_X7_fails hinj hl0  h sz) (cwV 1 hts (gl_V (GL_8 _ (by decide +kernel)) (GL_8 _ (by decide +kernel)) (GL_8 _ (by decide +kernel)) (GL_1 _ (by decide +kernel)) (GL_8 _ (by decide +kernel))) rfl rfl rfl (by decide +kernel) ⟨Nat.le_of_ble_eq_true rfl, Nat.le_of_ble_eq_true rfl⟩) rfl rfl (Nat.le_of_ble_eq_true rfl) ⟨Nat.le_of_ble_eq_true rfl, Nat.le_of_ble_eq_true rfl⟩ dX7_linesSaved_10 ?_
    clear h
    intro x10 s11 h
    exact e_i (pc := 13) a hr dX7_linesSaved_13 h

set_option maxRecDepth 100000 in
set_option maxHeartbeats 4000000 in
theorem c_X7_append {l : Launch} {D : va_G} {X : XI} {ad : Nat → Nat} (hinj : adI ad) (hl0 : l.stackTraces = false) {p1 : Int}  {σ : St} {K : Int → St → Prop} (h : f_X7_append p1 σ K) (sz : Nat) : Met l yX7_append (WW (.code yX7_append cX7_append 2 (some .int))) { frames := 1, cells := 0, slots := 0, locals := 22 } (va_Pc [Value.ref (ad 161), vI p1] (WD D X ad σ sz)) (QI D X ad sz K) 0 0 (AA ad sz) := by
  refine a_start (cc := cX7_append) (maxL := 2) (ret := (some .int)) (own := RX7) [Value.ref (ad 161), vI p1] (by decide) rfl rfl (Nat.le_of_ble_eq_true rfl) hinj hl0 ?_
  intro p e s m below meth c a hr hsz
  subst hsz
  have hts := a.1.2.2.2.2
  have tb : tyc 161 (11, 0) := ⟨by decide, rfl⟩
  have w1 := hts (Cond.fieldLink RX7 225 "SightLegendModel" "typed" "I") (List.mem_cons_of_mem _ (GL_34 _ (by decide +kernel)))
  have w2 : ∀ w ∈ u_ws RX7 TX7 29, w ∈ WW (.code yX7_append cX7_append 2 (some .int)) := fun w h => List.mem_cons_of_mem _ (inlX7 w h)
  have w3 := hts (Cond.fieldLink RX7 22 "SightLegendModel" "text" "[I") (List.mem_cons_of_mem _ (GL_5 _ (by decide +kernel)))
  have w4 : tyc 166 (0, 160) := ty_of (d := 5) (t1 := (0, 160)) (by decide +kernel) rfl tb
  unfold f_X7_append at h
  refine a_sub (ls1 := [(0, Value.ref (ad 161)), (1, vI p1)]) [0, 1] rfl ?_
  refine a_iload_n (pc := 0) a 1 dX7_append_0 rfl rfl ?_
  refine a_iconst (pc := 1) a dX7_append_1 ?_
  refine a_bipush (pc := 2) a dX7_append_2 (by decide) ?_
  refine a_csi (pc := 4) a (As := [vI p1, vI 0, vI 127]) (rest := []) (fun sz => c_X7_in hinj hl0  h sz) (va_cwS 3 hts (gl_S (GL_8 _ (by decide +kernel)) (GL_8 _ (by decide +kernel)) (GL_1 _ (by decide +kernel)) (GL_8 _ (by decide +kernel))) rfl rfl rfl (by decide +kernel) ⟨Nat.le_of_ble_eq_true rfl, Nat.le_of_ble_eq_true rfl⟩) rfl rfl (Nat.le_of_ble_eq_true rfl) ⟨Nat.le_of_ble_eq_true rfl, Nat.le_of_ble_eq_true rfl⟩ dX7_append_4 ?_
  rintro x1 s9 ⟨hs9, h9⟩
  subst s9
  replace h := h9
  clear h9
  refine a_if_ne (pc := 7) a h.1 dX7_append_7 (tgt := 16) (by decide) (fun hq => ?_) (fun hq => ?_)
  · replace h := h.2.1 hq
    clear hq
    refine a_aload_n (pc := 16) a 0 dX7_append_16 rfl rfl ?_
    refine a_getI (pc := 17) a 6 6 rfl tb vc7 w2 w1 (by decide) (by decide) rfl dX7_append_17 ?_
    refine a_sipush (pc := 20) a dX7_append_20 (by decide) ?_
    refine a_icmp_ne (pc := 23) a h.1 ⟨by decide, by decide⟩ dX7_append_23 (tgt := 32) (by decide) (fun hq => ?_) (fun hq => ?_)
    · replace h := h.2.1 hq
      clear hq
      refine a_aload_n (pc := 32) a 0 dX7_append_32 rfl rfl ?_
      refine a_getR (pc := 33) a 5 5 rfl tb vc7 w2 w3 (by decide) (by decide) 5 (q := 166) rfl rfl dX7_append_33 ?_
      refine a_aload_n (pc := 36) a 0 dX7_append_36 rfl rfl ?_
      refine a_getI (pc := 37) a 6 6 rfl tb vc7 w2 w1 (by decide) (by decide) rfl dX7_append_37 ?_
      refine a_iload_n (pc := 40) a 1 dX7_append_40 rfl rfl ?_
      refine a_iast (pc := 41) a w4 (by decide) h.1 dX7_append_41 ?_
      replace h := h.2
      refine a_nmS (fun s2 hx => ?_)
      replace h := h s2 hx
      clear hx
      refine a_aload_n (pc := 42) a 0 dX7_append_42 rfl rfl ?_
      refine a_dup (pc := 43) a rfl dX7_append_43 ?_
      refine a_getI (pc := 44) a 6 6 rfl tb vc7 w2 w1 (by decide) (by decide) rfl dX7_append_44 ?_
      refine a_iconst (pc := 47) a dX7_append_47 ?_
      refine a_iadd (pc := 48) a dX7_append_48 ?_
      refine a_putI (pc := 49) a 6 6 rfl tb vc7 w2 w1 (by decide) (by decide) tyX7 tyX7_ok nmX7 rfl rfl (by decide +kernel) dX7_append_49 ?_
      refine a_nmS (fun s3 hx => ?_)
      replace h := h s3 hx
      clear hx
      refine a_aload_n (pc := 52) a 0 dX7_append_52 rfl rfl ?_
      refine a_aload_n (pc := 53) a 0 dX7_append_53 rfl rfl ?_
      refine a_getI (pc := 54) a 6 6 rfl tb vc7 w2 w1 (by decide) (by decide) rfl dX7_append_54 ?_
      refine a_cvi (pc := 57) a (As := [vI (s3 161 6)]) (rest := []) tb vc7 (fun sz => c_X7_tells hinj hl0  h sz) (cwV 1 hts (gl_V (GL_8 _ (by decide +kernel)) (GL_8 _ (by decide +kernel)) (GL_8 _ (by decide +kernel)) (GL_1 _ (by decide +kernel)) (GL_9 _ (by decide +kernel))) rfl rfl rfl (by decide +kernel) ⟨Nat.le_of_ble_eq_true rfl, Nat.le_of_ble_eq_true rfl⟩) rfl rfl (Nat.le_of_ble_eq_true rfl) ⟨Nat.le_of_ble_eq_true rfl, Nat.le_of_ble_eq_true rfl⟩ dX7_append_57 ?_
      clear h
      intro x4 s5 h
      exact e_i (pc := 60) a hr dX7_append_60 h
    · replace h := h.2.2 hq
      clear hq
      refine a_aload_n (pc := 26) a 0 dX7_append_26 rfl rfl ?_
      refine a_iconst (pc := 27) a dX7_append_27 ?_
      refine a_cvi (pc := 28) a (As := [vI 2]) (rest := []) tb vc7 (fun sz => c_X7_fails hinj hl0  h sz) (cwV 1 hts (gl_V (GL_8 _ (by decide +kernel)) (GL_8 _ (by decide +kernel)) (GL_8 _ (by decide +kernel)) (GL_1 _ (by decide +kernel)) (GL_8 _ (by decide +kernel))) rfl rfl rfl (by decide +kernel) ⟨Nat.le_of_ble_eq_true rfl, Nat.le_of_ble_eq_true rfl⟩) rfl rfl (Nat.le_of_ble_eq_true rfl) ⟨Nat.le_of_ble_eq_true rfl, Nat.le_of_ble_eq_true rfl⟩ dX7_append_28 ?_
      clear h
      intro x6 s7 h
      exact e_i (pc := 31) a hr dX7_append_31 h
  · replace h := h.2.2 hq
    clear hq
    refine a_aload_n (pc := 10) a 0 dX7_append_10 rfl rfl ?_
    refine a_iconst (pc := 11) a dX7_append_11 ?_
    refine a_cvi (pc := 12) a (As := [vI 1]) (rest := []) tb vc7 (fun sz => c_X7_fails hinj hl0  h sz) (cwV 1 hts (gl_V (GL_8 _ (by decide +kernel)) (GL_8 _ (by decide +kernel)) (GL_8 _ (by decide +kernel)) (GL_1 _ (by decide +kernel)) (GL_8 _ (by decide +kernel))) rfl rfl rfl (by decide +kernel) ⟨Nat.le_of_ble_eq_true rfl, Nat.le_of_ble_eq_true rfl⟩) rfl rfl (Nat.le_of_ble_eq_true rfl) ⟨Nat.le_of_ble_eq_true rfl, Nat.le_of_ble_eq_true rfl⟩ dX7_append_12 ?_
    clear h
    intro x8 s9 h
    exact e_i (pc := 15) a hr dX7_append_15 h

set_option maxRecDepth 100000 in
set_option maxHeartbeats 4000000 in
theorem c_X7_clearText {l : Launch} {D : va_G} {X : XI} {ad : Nat → Nat} (hinj : adI ad) (hl0 : l.stackTraces = false)   {σ : St} {K : Int → St → Prop} (h : f_X7_clearText σ K) (sz : Nat) : Met l yX7_clearText (WW (.code yX7_clearText cX7_clearText 2 (some .int))) { frames := 1, cells := 0, slots := 0, locals := 21 } (va_Pc [Value.ref (ad 161)] (WD D X ad σ sz)) (QI D X ad sz K) 0 0 (AA ad sz) := by
  refine a_start (cc := cX7_clearText) (maxL := 2) (ret := (some .int)) (own := RX7) [Value.ref (ad 161)] (by decide) rfl rfl (Nat.le_of_ble_eq_true rfl) hinj hl0 ?_
  intro p e s m below meth c a hr hsz
  subst hsz
  have hts := a.1.2.2.2.2
  have tb : tyc 161 (11, 0) := ⟨by decide, rfl⟩
  have w1 := hts (Cond.fieldLink RX7 225 "SightLegendModel" "typed" "I") (List.mem_cons_of_mem _ (GL_34 _ (by decide +kernel)))
  have w2 : ∀ w ∈ u_ws RX7 TX7 29, w ∈ WW (.code yX7_clearText cX7_clearText 2 (some .int)) := fun w h => List.mem_cons_of_mem _ (inlX7 w h)
  unfold f_X7_clearText at h
  refine a_sub (ls1 := [(0, Value.ref (ad 161))]) [0] rfl ?_
  refine a_aload_n (pc := 0) a 0 dX7_clearText_0 rfl rfl ?_
  refine a_getI (pc := 1) a 6 6 rfl tb vc7 w2 w1 (by decide) (by decide) rfl dX7_clearText_1 ?_
  refine a_nm (fun x1 hx => ?_)
  replace h := h x1 hx
  clear hx
  refine a_istore_n (pc := 4) a (ls1 := [(1, vI x1), (0, Value.ref (ad 161))]) dX7_clearText_4 rfl (by decide) rfl ?_
  refine a_aload_n (pc := 5) a 1 dX7_clearText_5 rfl rfl ?_
  refine a_iconst (pc := 6) a dX7_clearText_6 ?_
  refine a_putI (pc := 7) a 6 6 rfl tb vc7 w2 w1 (by decide) (by decide) tyX7 tyX7_ok nmX7 rfl rfl (by decide +kernel) dX7_clearText_7 ?_
  refine a_nmS (fun s2 hx => ?_)
  replace h := h s2 hx
  clear hx
  refine a_aload_n (pc := 10) a 1 dX7_clearText_10 rfl rfl ?_
  refine a_iload_n (pc := 11) a 0 dX7_clearText_11 rfl rfl ?_
  refine a_cvi (pc := 12) a (As := [vI x1]) (rest := []) tb vc7 (fun sz => c_X7_tells hinj hl0  h sz) (cwV 1 hts (gl_V (GL_8 _ (by decide +kernel)) (GL_8 _ (by decide +kernel)) (GL_8 _ (by decide +kernel)) (GL_1 _ (by decide +kernel)) (GL_9 _ (by decide +kernel))) rfl rfl rfl (by decide +kernel) ⟨Nat.le_of_ble_eq_true rfl, Nat.le_of_ble_eq_true rfl⟩) rfl rfl (Nat.le_of_ble_eq_true rfl) ⟨Nat.le_of_ble_eq_true rfl, Nat.le_of_ble_eq_true rfl⟩ dX7_clearText_12 ?_
  clear h
  intro x3 s4 h
  exact e_i (pc := 15) a hr dX7_clearText_15 h

set_option maxRecDepth 100000 in
set_option maxHeartbeats 4000000 in
theorem c_X7_isDigit {l : Launch} {D : va_G} {X : XI} {ad : Nat → Nat} (hinj : adI ad) (hl0 : l.stackTraces = false)   {σ : St} {K : Int → Prop} (h : f_X7_isDigit σ K) (sz : Nat) : Met l yX7_isDigit (WW (.code yX7_isDigit cX7_isDigit 1 (some .boolean))) { frames := 1, cells := 0, slots := 0, locals := 22 } (va_Pc [Value.ref (ad 161)] (WD D X ad σ sz)) (QI D X ad sz (fun r τ => τ = σ ∧ K r)) 0 0 (AA ad sz) := by
  refine a_start (cc := cX7_isDigit) (maxL := 1) (ret := (some .boolean)) (own := RX7) [Value.ref (ad 161)] (by decide) rfl rfl (Nat.le_of_ble_eq_true rfl) hinj hl0 ?_
  intro p e s m below meth c a hr hsz
  subst hsz
  have hts := a.1.2.2.2.2
  have tb : tyc 161 (11, 0) := ⟨by decide, rfl⟩
  have w1 := hts (Cond.fieldLink RX7 228 "SightLegendModel" "spot" "I") (List.mem_cons_of_mem _ (GL_36 _ (by decide +kernel)))
  have w2 : ∀ w ∈ u_ws RX7 TX7 29, w ∈ WW (.code yX7_isDigit cX7_isDigit 1 (some .boolean)) := fun w h => List.mem_cons_of_mem _ (inlX7 w h)
  have w3 := hts (Cond.fieldLink RX7 225 "SightLegendModel" "typed" "I") (List.mem_cons_of_mem _ (GL_34 _ (by decide +kernel)))
  have w4 := hts (Cond.fieldLink RX7 22 "SightLegendModel" "text" "[I") (List.mem_cons_of_mem _ (GL_5 _ (by decide +kernel)))
  have w5 : tyc 166 (0, 160) := ty_of (d := 5) (t1 := (0, 160)) (by decide +kernel) rfl tb
  unfold f_X7_isDigit at h
  refine a_sub (ls1 := [(0, Value.ref (ad 161))]) [0] rfl ?_
  refine a_aload_n (pc := 0) a 0 dX7_isDigit_0 rfl rfl ?_
  refine a_getI (pc := 1) a 27 27 rfl tb vc7 w2 w1 (by decide) (by decide) rfl dX7_isDigit_1 ?_
  refine a_aload_n (pc := 4) a 0 dX7_isDigit_4 rfl rfl ?_
  refine a_getI (pc := 5) a 6 6 rfl tb vc7 w2 w3 (by decide) (by decide) rfl dX7_isDigit_5 ?_
  refine a_icmp_ge (pc := 8) a h.1 h.2.1 dX7_isDigit_8 (tgt := 34) (by decide) (fun hq => ?_) (fun hq => ?_)
  · replace h := h.2.2.1 hq
    clear hq
    refine a_iconst (pc := 34) a dX7_isDigit_34 ?_
    exact e_z (pc := 35) a hr (by decide) dX7_isDigit_35 ⟨rfl, h⟩
  · replace h := h.2.2.2 hq
    clear hq
    refine a_aload_n (pc := 11) a 0 dX7_isDigit_11 rfl rfl ?_
    refine a_getR (pc := 12) a 5 5 rfl tb vc7 w2 w4 (by decide) (by decide) 5 (q := 166) rfl rfl dX7_isDigit_12 ?_
    refine a_aload_n (pc := 15) a 0 dX7_isDigit_15 rfl rfl ?_
    refine a_getI (pc := 16) a 27 27 rfl tb vc7 w2 w1 (by decide) (by decide) rfl dX7_isDigit_16 ?_
    refine a_iald (pc := 19) a w5 (by decide) h.1 dX7_isDigit_19 ?_
    replace h := h.2
    refine a_bipush (pc := 20) a dX7_isDigit_20 (by decide) ?_
    refine a_bipush (pc := 22) a dX7_isDigit_22 (by decide) ?_
    refine a_csi (pc := 24) a (As := [vI (σ 166 (σ 161 27)), vI 48, vI 57]) (rest := []) (fun sz => c_X7_in hinj hl0  h sz) (va_cwS 3 hts (gl_S (GL_8 _ (by decide +kernel)) (GL_8 _ (by decide +kernel)) (GL_1 _ (by decide +kernel)) (GL_8 _ (by decide +kernel))) rfl rfl rfl (by decide +kernel) ⟨Nat.le_of_ble_eq_true rfl, Nat.le_of_ble_eq_true rfl⟩) rfl rfl (Nat.le_of_ble_eq_true rfl) ⟨Nat.le_of_ble_eq_true rfl, Nat.le_of_ble_eq_true rfl⟩ dX7_isDigit_24 ?_
    rintro x1 s9 ⟨hs9, h9⟩
    subst s9
    replace h := h9
    clear h9
    refine a_if_eq (pc := 27) a h.1 dX7_isDigit_27 (tgt := 34) (by decide) (fun hq => ?_) (fun hq => ?_)
    · replace h := h.2.1 hq
      clear hq
      refine a_iconst (pc := 34) a dX7_isDigit_34 ?_
      exact e_z (pc := 35) a hr (by decide) dX7_isDigit_35 ⟨rfl, h⟩
    · replace h := h.2.2 hq
      clear hq
      refine a_iconst (pc := 30) a dX7_isDigit_30 ?_
      refine a_goto (pc := 31) a dX7_isDigit_31 (tgt := 35) (by decide) ?_
      exact e_z (pc := 35) a hr (by decide) dX7_isDigit_35 ⟨rfl, h⟩

set_option maxRecDepth 100000 in
set_option maxHeartbeats 4000000 in
theorem c_X7_isByte {l : Launch} {D : va_G} {X : XI} {ad : Nat → Nat} (hinj : adI ad) (hl0 : l.stackTraces = false) {p1 : Int}  {σ : St} {K : Int → St → Prop} (h : f_X7_isByte p1 σ K) (sz : Nat) : Met l yX7_isByte (WW (.code yX7_isByte cX7_isByte 2 (some .boolean))) { frames := 0, cells := 0, slots := 0, locals := 0 } (va_Pc [Value.ref (ad 161), vI p1] (WD D X ad σ sz)) (QI D X ad sz K) 0 0 (AA ad sz) := by
  refine a_start (cc := cX7_isByte) (maxL := 2) (ret := (some .boolean)) (own := RX7) [Value.ref (ad 161), vI p1] (by decide) rfl rfl (Nat.le_of_ble_eq_true rfl) hinj hl0 ?_
  intro p e s m below meth c a hr hsz
  subst hsz
  have hts := a.1.2.2.2.2
  have tb : tyc 161 (11, 0) := ⟨by decide, rfl⟩
  have w1 := hts (Cond.fieldLink RX7 228 "SightLegendModel" "spot" "I") (List.mem_cons_of_mem _ (GL_36 _ (by decide +kernel)))
  have w2 : ∀ w ∈ u_ws RX7 TX7 29, w ∈ WW (.code yX7_isByte cX7_isByte 2 (some .boolean)) := fun w h => List.mem_cons_of_mem _ (inlX7 w h)
  have w3 := hts (Cond.fieldLink RX7 225 "SightLegendModel" "typed" "I") (List.mem_cons_of_mem _ (GL_34 _ (by decide +kernel)))
  have w4 := hts (Cond.fieldLink RX7 22 "SightLegendModel" "text" "[I") (List.mem_cons_of_mem _ (GL_5 _ (by decide +kernel)))
  have w5 : tyc 166 (0, 160) := ty_of (d := 5) (t1 := (0, 160)) (by decide +kernel) rfl tb
  unfold f_X7_isByte at h
  refine a_sub (ls1 := [(0, Value.ref (ad 161)), (1, vI p1)]) [0, 1] rfl ?_
  refine a_aload_n (pc := 0) a 0 dX7_isByte_0 rfl rfl ?_
  refine a_getI (pc := 1) a 27 27 rfl tb vc7 w2 w1 (by decide) (by decide) rfl dX7_isByte_1 ?_
  refine a_aload_n (pc := 4) a 0 dX7_isByte_4 rfl rfl ?_
  refine a_getI (pc := 5) a 6 6 rfl tb vc7 w2 w3 (by decide) (by decide) rfl dX7_isByte_5 ?_
  refine a_icmp_ge (pc := 8) a h.1 h.2.1 dX7_isByte_8 (tgt := 36) (by decide) (fun hq => ?_) (fun hq => ?_)
  · replace h := h.2.2.1 hq
    clear hq
    refine a_iconst (pc := 36) a dX7_isByte_36 ?_
    exact e_z (pc := 37) a hr (by decide) dX7_isByte_37 h
  · replace h := h.2.2.2 hq
    clear hq
    refine a_aload_n (pc := 11) a 0 dX7_isByte_11 rfl rfl ?_
    refine a_getR (pc := 12) a 5 5 rfl tb vc7 w2 w4 (by decide) (by decide) 5 (q := 166) rfl rfl dX7_isByte_12 ?_
    refine a_aload_n (pc := 15) a 0 dX7_isByte_15 rfl rfl ?_
    refine a_getI (pc := 16) a 27 27 rfl tb vc7 w2 w1 (by decide) (by decide) rfl dX7_isByte_16 ?_
    refine a_iald (pc := 19) a w5 (by decide) h.1 dX7_isByte_19 ?_
    replace h := h.2
    refine a_iload_n (pc := 20) a 1 dX7_isByte_20 rfl rfl ?_
    refine a_icmp_ne (pc := 21) a h.1 h.2.1 dX7_isByte_21 (tgt := 36) (by decide) (fun hq => ?_) (fun hq => ?_)
    · replace h := h.2.2.1 hq
      clear hq
      refine a_iconst (pc := 36) a dX7_isByte_36 ?_
      exact e_z (pc := 37) a hr (by decide) dX7_isByte_37 h
    · replace h := h.2.2.2 hq
      clear hq
      refine a_aload_n (pc := 24) a 0 dX7_isByte_24 rfl rfl ?_
      refine a_dup (pc := 25) a rfl dX7_isByte_25 ?_
      refine a_getI (pc := 26) a 27 27 rfl tb vc7 w2 w1 (by decide) (by decide) rfl dX7_isByte_26 ?_
      refine a_iconst (pc := 29) a dX7_isByte_29 ?_
      refine a_iadd (pc := 30) a dX7_isByte_30 ?_
      refine a_putI (pc := 31) a 27 27 rfl tb vc7 w2 w1 (by decide) (by decide) tyX7 tyX7_ok nmX7 rfl rfl (by decide +kernel) dX7_isByte_31 ?_
      refine a_nmS (fun s1 hx => ?_)
      replace h := h s1 hx
      clear hx
      refine a_iconst (pc := 34) a dX7_isByte_34 ?_
      exact e_z (pc := 35) a hr (by decide) dX7_isByte_35 h

set_option maxRecDepth 100000 in
set_option maxHeartbeats 4000000 in
theorem c_X7_isNumber {l : Launch} {D : va_G} {X : XI} {ad : Nat → Nat} (hinj : adI ad) (hl0 : l.stackTraces = false) {p1 : Int} {p2 : Int} {p3 : Int}  {σ : St} {K : Int → St → Prop} (h : f_X7_isNumber p1 p2 p3 σ K) (sz : Nat) : Met l yX7_isNumber (WW (.code yX7_isNumber cX7_isNumber 5 (some .boolean))) { frames := 2, cells := 0, slots := 0, locals := 42 } (va_Pc [Value.ref (ad 161), vI p1, vI p2, vI p3] (WD D X ad σ sz)) (QI D X ad sz K) 0 0 (AA ad sz) := by
  refine a_start (cc := cX7_isNumber) (maxL := 5) (ret := (some .boolean)) (own := RX7) [Value.ref (ad 161), vI p1, vI p2, vI p3] (by decide) rfl rfl (Nat.le_of_ble_eq_true rfl) hinj hl0 ?_
  intro p e s m below meth c a hr hsz
  subst hsz
  have hts := a.1.2.2.2.2
  have tb : tyc 161 (11, 0) := ⟨by decide, rfl⟩
  have w1 := hts (Cond.fieldLink RX7 228 "SightLegendModel" "spot" "I") (List.mem_cons_of_mem _ (GL_36 _ (by decide +kernel)))
  have w2 : ∀ w ∈ u_ws RX7 TX7 29, w ∈ WW (.code yX7_isNumber cX7_isNumber 5 (some .boolean)) := fun w h => List.mem_cons_of_mem _ (inlX7 w h)
  have w3 := hts (Cond.fieldLink RX7 7 "SightLegendModel" "s" "[I") (List.mem_cons_of_mem _ (GL_5 _ (by decide +kernel)))
  have w4 : tyc 162 (0, 311) := ty_of (d := 1) (t1 := (0, 311)) (by decide +kernel) rfl tb
  have w5 := hts (Cond.fieldLink RX7 22 "SightLegendModel" "text" "[I") (List.mem_cons_of_mem _ (GL_5 _ (by decide +kernel)))
  have w6 : tyc 166 (0, 160) := ty_of (d := 5) (t1 := (0, 160)) (by decide +kernel) rfl tb
  unfold f_X7_isNumber at h
  refine a_sub (ls1 := [(0, Value.ref (ad 161)), (1, vI p1), (2, vI p2), (3, vI p3)]) [0, 1, 2, 3] rfl ?_
  refine a_aload_n (pc := 0) a 0 dX7_isNumber_0 rfl rfl ?_
  refine a_getI (pc := 1) a 27 27 rfl tb vc7 w2 w1 (by decide) (by decide) rfl dX7_isNumber_1 ?_
  refine a_nm (fun x1 hx => ?_)
  replace h := h x1 hx
  clear hx
  refine a_istore (pc := 4) a (ls1 := [(4, vI x1), (0, Value.ref (ad 161)), (1, vI p1), (2, vI p2), (3, vI p3)]) dX7_isNumber_4 (by decide) rfl ?_
  refine a_aload_n (pc := 6) a 1 dX7_isNumber_6 rfl rfl ?_
  refine a_getR (pc := 7) a 0 0 rfl tb vc7 w2 w3 (by decide) (by decide) 1 (q := 162) rfl rfl dX7_isNumber_7 ?_
  refine a_iload_n (pc := 10) a 2 dX7_isNumber_10 rfl rfl ?_
  refine a_iconst (pc := 11) a dX7_isNumber_11 ?_
  refine a_iast (pc := 12) a w4 (by decide) h.1 dX7_isNumber_12 ?_
  replace h := h.2
  refine a_nmS (fun s2 hx => ?_)
  replace h := h s2 hx
  clear hx
  refine a_sub (ls1 := [(0, Value.ref (ad 161)), (1, vI p1), (2, vI p2), (3, vI p3), (4, vI x1)]) [1, 2, 3, 4, 0] rfl ?_
  refine g_wl0s [(0, Value.ref (ad 161)), (1, vI p1), (2, vI p2), (3, vI p3), (4, vI x1)] h ?_
  clear h
  intro s3 ag13 hag13 h
  refine a_aload_n (pc := 13) a 0 dX7_isNumber_13 rfl rfl ?_
  refine a_cvi (pc := 14) a (As := []) (rest := []) tb vc7 (fun sz => c_X7_isDigit hinj hl0  h sz) (cwV 0 hts (gl_V (GL_37 _ (by decide +kernel)) (GL_37 _ (by decide +kernel)) (GL_37 _ (by decide +kernel)) (GL_1 _ (by decide +kernel)) (GL_37 _ (by decide +kernel))) rfl rfl rfl (by decide +kernel) ⟨Nat.le_of_ble_eq_true rfl, Nat.le_of_ble_eq_true rfl⟩) rfl rfl (Nat.le_of_ble_eq_true rfl) ⟨Nat.le_of_ble_eq_true rfl, Nat.le_of_ble_eq_true rfl⟩ dX7_isNumber_14 ?_
  rintro x4 s9 ⟨hs9, h9⟩
  subst s9
  replace h := h9
  clear h9
  refine g_wj0 72 0 0 [(0, Value.ref (ad 161)), (1, vI p1), (3, vI p3), (4, vI x1)] [] h ?_ ?_
  · clear h
    intro  h
    refine a_aload_n (pc := 72) a 0 dX7_isNumber_72 rfl rfl ?_
    refine a_getI (pc := 73) a 27 27 rfl tb vc7 w2 w1 (by decide) (by decide) rfl dX7_isNumber_73 ?_
    refine a_iload (pc := 76) a 3 dX7_isNumber_76 rfl ?_
    refine a_icmp_eq (pc := 78) a h.1 h.2.1 dX7_isNumber_78 (tgt := 88) (by decide) (fun hq => ?_) (fun hq => ?_)
    · replace h := h.2.2.1 hq
      clear hq
      refine a_iconst (pc := 88) a dX7_isNumber_88 ?_
      exact e_z (pc := 89) a hr (by decide) dX7_isNumber_89 h
    · replace h := h.2.2.2 hq
      clear hq
      refine a_aload_n (pc := 81) a 0 dX7_isNumber_81 rfl rfl ?_
      refine a_cvi (pc := 82) a (As := []) (rest := []) tb vc7 (fun sz => c_X7_isDigit hinj hl0  h sz) (cwV 0 hts (gl_V (GL_37 _ (by decide +kernel)) (GL_37 _ (by decide +kernel)) (GL_37 _ (by decide +kernel)) (GL_1 _ (by decide +kernel)) (GL_37 _ (by decide +kernel))) rfl rfl rfl (by decide +kernel) ⟨Nat.le_of_ble_eq_true rfl, Nat.le_of_ble_eq_true rfl⟩) rfl rfl (Nat.le_of_ble_eq_true rfl) ⟨Nat.le_of_ble_eq_true rfl, Nat.le_of_ble_eq_true rfl⟩ dX7_isNumber_82 ?_
      rintro x8 s9 ⟨hs9, h9⟩
      subst s9
      replace h := h9
      clear h9
      refine a_if_eq (pc := 85) a h.1 dX7_isNumber_85 (tgt := 90) (by decide) (fun hq => ?_) (fun hq => ?_)
      · replace h := h.2.1 hq
        clear hq
        refine a_aload_n (pc := 90) a 0 dX7_isNumber_90 rfl rfl ?_
        refine a_getR (pc := 91) a 0 0 rfl tb vc7 w2 w3 (by decide) (by decide) 1 (q := 162) rfl rfl dX7_isNumber_91 ?_
        refine a_iload_n (pc := 94) a 1 dX7_isNumber_94 rfl rfl ?_
        refine a_iald (pc := 95) a w4 (by decide) h.1 dX7_isNumber_95 ?_
        replace h := h.2
        refine a_iload_n (pc := 96) a 2 dX7_isNumber_96 rfl rfl ?_
        refine a_icmp_le (pc := 97) a h.1 h.2.1 dX7_isNumber_97 (tgt := 108) (by decide) (fun hq => ?_) (fun hq => ?_)
        · replace h := h.2.2.1 hq
          clear hq
          refine a_aload_n (pc := 108) a 0 dX7_isNumber_108 rfl rfl ?_
          refine a_bipush (pc := 109) a dX7_isNumber_109 (by decide) ?_
          refine a_cvi (pc := 111) a (As := [vI 44]) (rest := []) tb vc7 (fun sz => c_X7_isByte hinj hl0  h sz) (cwV 1 hts (gl_V (GL_37 _ (by decide +kernel)) (GL_37 _ (by decide +kernel)) (GL_37 _ (by decide +kernel)) (GL_1 _ (by decide +kernel)) (GL_37 _ (by decide +kernel))) rfl rfl rfl (by decide +kernel) ⟨Nat.le_of_ble_eq_true rfl, Nat.le_of_ble_eq_true rfl⟩) rfl rfl (Nat.le_of_ble_eq_true rfl) ⟨Nat.le_of_ble_eq_true rfl, Nat.le_of_ble_eq_true rfl⟩ dX7_isNumber_111 ?_
          clear h
          intro x9 s10 h
          exact e_z (pc := 114) a hr h.1 dX7_isNumber_114 h.2
        · replace h := h.2.2.2 hq
          clear hq
          refine a_aload_n (pc := 100) a 0 dX7_isNumber_100 rfl rfl ?_
          refine a_iload (pc := 101) a 3 dX7_isNumber_101 rfl ?_
          refine a_putI (pc := 103) a 27 27 rfl tb vc7 w2 w1 (by decide) (by decide) tyX7 tyX7_ok nmX7 rfl rfl (by decide +kernel) dX7_isNumber_103 ?_
          refine a_nmS (fun s11 hx => ?_)
          replace h := h s11 hx
          clear hx
          refine a_iconst (pc := 106) a dX7_isNumber_106 ?_
          exact e_z (pc := 107) a hr (by decide) dX7_isNumber_107 h
      · replace h := h.2.2 hq
        clear hq
        refine a_iconst (pc := 88) a dX7_isNumber_88 ?_
        exact e_z (pc := 89) a hr (by decide) dX7_isNumber_89 h
  · clear h
    intro jj72 hjj72 h
    refine a_if_eq (pc := 17) a h.1 dX7_isNumber_17 (tgt := 72) (by decide) (fun hq => ?_) (fun hq => ?_)
    · replace h := h.2.1 hq
      clear hq
      refine a_sub (ls1 := [(0, Value.ref (ad 161)), (1, vI p1), (3, vI p3), (4, vI x1)]) [0, 1, 3, 4] rfl ?_
      exact hjj72  h
    · replace h := h.2.2 hq
      clear hq
      refine a_aload_n (pc := 20) a 0 dX7_isNumber_20 rfl rfl ?_
      refine a_getI (pc := 21) a 27 27 rfl tb vc7 w2 w1 (by decide) (by decide) rfl dX7_isNumber_21 ?_
      refine a_iload (pc := 24) a 4 dX7_isNumber_24 rfl ?_
      refine a_isub (pc := 26) a dX7_isNumber_26 ?_
      refine a_iload_n (pc := 27) a 2 dX7_isNumber_27 rfl rfl ?_
      refine a_icmp_ge (pc := 28) a h.1 h.2.1 dX7_isNumber_28 (tgt := 72) (by decide) (fun hq => ?_) (fun hq => ?_)
      · replace h := h.2.2.1 hq
        clear hq
        refine a_sub (ls1 := [(0, Value.ref (ad 161)), (1, vI p1), (3, vI p3), (4, vI x1)]) [0, 1, 3, 4] rfl ?_
        exact hjj72  h
      · replace h := h.2.2.2 hq
        clear hq
        refine a_aload_n (pc := 31) a 0 dX7_isNumber_31 rfl rfl ?_
        refine a_getR (pc := 32) a 0 0 rfl tb vc7 w2 w3 (by decide) (by decide) 1 (q := 162) rfl rfl dX7_isNumber_32 ?_
        refine a_iload_n (pc := 35) a 1 dX7_isNumber_35 rfl rfl ?_
        refine a_bipush (pc := 36) a dX7_isNumber_36 (by decide) ?_
        refine a_aload_n (pc := 38) a 0 dX7_isNumber_38 rfl rfl ?_
        refine a_getR (pc := 39) a 0 0 rfl tb vc7 w2 w3 (by decide) (by decide) 1 (q := 162) rfl rfl dX7_isNumber_39 ?_
        refine a_iload_n (pc := 42) a 1 dX7_isNumber_42 rfl rfl ?_
        refine a_iald (pc := 43) a w4 (by decide) h.1 dX7_isNumber_43 ?_
        replace h := h.2
        refine a_imul (pc := 44) a dX7_isNumber_44 ?_
        refine a_aload_n (pc := 45) a 0 dX7_isNumber_45 rfl rfl ?_
        refine a_getR (pc := 46) a 5 5 rfl tb vc7 w2 w5 (by decide) (by decide) 5 (q := 166) rfl rfl dX7_isNumber_46 ?_
        refine a_aload_n (pc := 49) a 0 dX7_isNumber_49 rfl rfl ?_
        refine a_getI (pc := 50) a 27 27 rfl tb vc7 w2 w1 (by decide) (by decide) rfl dX7_isNumber_50 ?_
        refine a_iald (pc := 53) a w6 (by decide) h.1 dX7_isNumber_53 ?_
        replace h := h.2
        refine a_iadd (pc := 54) a dX7_isNumber_54 ?_
        refine a_bipush (pc := 55) a dX7_isNumber_55 (by decide) ?_
        refine a_isub (pc := 57) a dX7_isNumber_57 ?_
        refine a_iast (pc := 58) a w4 (by decide) h.1 dX7_isNumber_58 ?_
        replace h := h.2
        refine a_nmS (fun s6 hx => ?_)
        replace h := h s6 hx
        clear hx
        refine a_aload_n (pc := 59) a 0 dX7_isNumber_59 rfl rfl ?_
        refine a_dup (pc := 60) a rfl dX7_isNumber_60 ?_
        refine a_getI (pc := 61) a 27 27 rfl tb vc7 w2 w1 (by decide) (by decide) rfl dX7_isNumber_61 ?_
        refine a_iconst (pc := 64) a dX7_isNumber_64 ?_
        refine a_iadd (pc := 65) a dX7_isNumber_65 ?_
        refine a_putI (pc := 66) a 27 27 rfl tb vc7 w2 w1 (by decide) (by decide) tyX7 tyX7_ok nmX7 rfl rfl (by decide +kernel) dX7_isNumber_66 ?_
        refine a_nmS (fun s7 hx => ?_)
        replace h := h s7 hx
        clear hx
        refine a_goto (pc := 69) a dX7_isNumber_69 (tgt := 13) (by decide) ?_
        exact hag13 s7 h

set_option maxRecDepth 100000 in
set_option maxHeartbeats 4000000 in
theorem c_X7_isSignText {l : Launch} {D : va_G} {X : XI} {ad : Nat → Nat} (hinj : adI ad) (hl0 : l.stackTraces = false)   {σ : St} {K : Int → St → Prop} (h : f_X7_isSignText σ K) (sz : Nat) : Met l yX7_isSignText (WW (.code yX7_isSignText cX7_isSignText 2 (some .boolean))) { frames := 3, cells := 0, slots := 0, locals := 66 } (va_Pc [Value.ref (ad 161)] (WD D X ad σ sz)) (QI D X ad sz K) 0 0 (AA ad sz) := by
  refine a_start (cc := cX7_isSignText) (maxL := 2) (ret := (some .boolean)) (own := RX7) [Value.ref (ad 161)] (by decide) rfl rfl (Nat.le_of_ble_eq_true rfl) hinj hl0 ?_
  intro p e s m below meth c a hr hsz
  subst hsz
  have hts := a.1.2.2.2.2
  have tb : tyc 161 (11, 0) := ⟨by decide, rfl⟩
  have w1 := hts (Cond.fieldLink RX7 7 "SightLegendModel" "s" "[I") (List.mem_cons_of_mem _ (GL_5 _ (by decide +kernel)))
  have w2 : ∀ w ∈ u_ws RX7 TX7 29, w ∈ WW (.code yX7_isSignText cX7_isSignText 2 (some .boolean)) := fun w h => List.mem_cons_of_mem _ (inlX7 w h)
  have w3 : tyc 162 (0, 311) := ty_of (d := 1) (t1 := (0, 311)) (by decide +kernel) rfl tb
  have w4 := hts (Cond.fieldLink RX7 228 "SightLegendModel" "spot" "I") (List.mem_cons_of_mem _ (GL_36 _ (by decide +kernel)))
  have w5 := hts (Cond.fieldLink RX7 225 "SightLegendModel" "typed" "I") (List.mem_cons_of_mem _ (GL_34 _ (by decide +kernel)))
  have w6 := hts (Cond.fieldLink RX7 22 "SightLegendModel" "text" "[I") (List.mem_cons_of_mem _ (GL_5 _ (by decide +kernel)))
  have w7 : tyc 166 (0, 160) := ty_of (d := 5) (t1 := (0, 160)) (by decide +kernel) rfl tb
  unfold f_X7_isSignText at h
  refine a_sub (ls1 := [(0, Value.ref (ad 161))]) [0] rfl ?_
  refine a_aload_n (pc := 0) a 0 dX7_isSignText_0 rfl rfl ?_
  refine a_getR (pc := 1) a 0 0 rfl tb vc7 w2 w1 (by decide) (by decide) 1 (q := 162) rfl rfl dX7_isSignText_1 ?_
  refine a_bipush (pc := 4) a dX7_isSignText_4 (by decide) ?_
  refine a_iald (pc := 6) a w3 (by decide) (by decide) dX7_isSignText_6 ?_
  refine a_bipush (pc := 7) a dX7_isSignText_7 (by decide) ?_
  refine a_icmp_ne (pc := 9) a h.1 ⟨by decide, by decide⟩ dX7_isSignText_9 (tgt := 14) (by decide) (fun hq => ?_) (fun hq => ?_)
  · replace h := h.2.1 hq
    clear hq
    refine a_bipush (pc := 14) a dX7_isSignText_14 (by decide) ?_
    refine a_iconst (pc := 16) a dX7_isSignText_16 ?_
    refine a_aload_n (pc := 17) a 0 dX7_isSignText_17 rfl rfl ?_
    refine a_getR (pc := 18) a 0 0 rfl tb vc7 w2 w1 (by decide) (by decide) 1 (q := 162) rfl rfl dX7_isSignText_18 ?_
    refine a_bipush (pc := 21) a dX7_isSignText_21 (by decide) ?_
    refine a_iald (pc := 23) a w3 (by decide) (by decide) dX7_isSignText_23 ?_
    refine a_imul (pc := 24) a dX7_isSignText_24 ?_
    refine a_iadd (pc := 25) a dX7_isSignText_25 ?_
    refine a_nm (fun x1 hx => ?_)
    replace h := h x1 hx
    clear hx
    refine a_istore_n (pc := 26) a (ls1 := [(1, vI x1), (0, Value.ref (ad 161))]) dX7_isSignText_26 rfl (by decide) rfl ?_
    refine a_aload_n (pc := 27) a 1 dX7_isSignText_27 rfl rfl ?_
    refine a_iload_n (pc := 28) a 0 dX7_isSignText_28 rfl rfl ?_
    refine a_iconst (pc := 29) a dX7_isSignText_29 ?_
    refine a_bipush (pc := 30) a dX7_isSignText_30 (by decide) ?_
    refine a_cvi (pc := 32) a (As := [vI x1, vI 2, vI 11]) (rest := []) tb vc7 (fun sz => c_X7_isNumber hinj hl0  h sz) (cwV 3 hts (gl_V (GL_37 _ (by decide +kernel)) (GL_37 _ (by decide +kernel)) (GL_37 _ (by decide +kernel)) (GL_1 _ (by decide +kernel)) (GL_37 _ (by decide +kernel))) rfl rfl rfl (by decide +kernel) ⟨Nat.le_of_ble_eq_true rfl, Nat.le_of_ble_eq_true rfl⟩) rfl rfl (Nat.le_of_ble_eq_true rfl) ⟨Nat.le_of_ble_eq_true rfl, Nat.le_of_ble_eq_true rfl⟩ dX7_isSignText_32 ?_
    clear h
    intro x2 s3 h
    refine a_if_eq (pc := 35) a h.1 dX7_isSignText_35 (tgt := 80) (by decide) (fun hq => ?_) (fun hq => ?_)
    · replace h := h.2.1 hq
      clear hq
      refine a_iconst (pc := 80) a dX7_isSignText_80 ?_
      exact e_z (pc := 81) a hr (by decide) dX7_isSignText_81 h
    · replace h := h.2.2 hq
      clear hq
      refine a_aload_n (pc := 38) a 1 dX7_isSignText_38 rfl rfl ?_
      refine a_iload_n (pc := 39) a 0 dX7_isSignText_39 rfl rfl ?_
      refine a_iconst (pc := 40) a dX7_isSignText_40 ?_
      refine a_iadd (pc := 41) a dX7_isSignText_41 ?_
      refine a_iconst (pc := 42) a dX7_isSignText_42 ?_
      refine a_sipush (pc := 43) a dX7_isSignText_43 (by decide) ?_
      refine a_cvi (pc := 46) a (As := [vI (x1 + 1), vI 3, vI 199]) (rest := []) tb vc7 (fun sz => c_X7_isNumber hinj hl0  h sz) (cwV 3 hts (gl_V (GL_37 _ (by decide +kernel)) (GL_37 _ (by decide +kernel)) (GL_37 _ (by decide +kernel)) (GL_1 _ (by decide +kernel)) (GL_37 _ (by decide +kernel))) rfl rfl rfl (by decide +kernel) ⟨Nat.le_of_ble_eq_true rfl, Nat.le_of_ble_eq_true rfl⟩) rfl rfl (Nat.le_of_ble_eq_true rfl) ⟨Nat.le_of_ble_eq_true rfl, Nat.le_of_ble_eq_true rfl⟩ dX7_isSignText_46 ?_
      clear h
      intro x4 s5 h
      refine a_if_eq (pc := 49) a h.1 dX7_isSignText_49 (tgt := 80) (by decide) (fun hq => ?_) (fun hq => ?_)
      · replace h := h.2.1 hq
        clear hq
        refine a_iconst (pc := 80) a dX7_isSignText_80 ?_
        exact e_z (pc := 81) a hr (by decide) dX7_isSignText_81 h
      · replace h := h.2.2 hq
        clear hq
        refine a_aload_n (pc := 52) a 1 dX7_isSignText_52 rfl rfl ?_
        refine a_iload_n (pc := 53) a 0 dX7_isSignText_53 rfl rfl ?_
        refine a_iconst (pc := 54) a dX7_isSignText_54 ?_
        refine a_iadd (pc := 55) a dX7_isSignText_55 ?_
        refine a_iconst (pc := 56) a dX7_isSignText_56 ?_
        refine a_sipush (pc := 57) a dX7_isSignText_57 (by decide) ?_
        refine a_cvi (pc := 60) a (As := [vI (x1 + 2), vI 3, vI 199]) (rest := []) tb vc7 (fun sz => c_X7_isNumber hinj hl0  h sz) (cwV 3 hts (gl_V (GL_37 _ (by decide +kernel)) (GL_37 _ (by decide +kernel)) (GL_37 _ (by decide +kernel)) (GL_1 _ (by decide +kernel)) (GL_37 _ (by decide +kernel))) rfl rfl rfl (by decide +kernel) ⟨Nat.le_of_ble_eq_true rfl, Nat.le_of_ble_eq_true rfl⟩) rfl rfl (Nat.le_of_ble_eq_true rfl) ⟨Nat.le_of_ble_eq_true rfl, Nat.le_of_ble_eq_true rfl⟩ dX7_isSignText_60 ?_
        clear h
        intro x6 s7 h
        refine a_if_eq (pc := 63) a h.1 dX7_isSignText_63 (tgt := 80) (by decide) (fun hq => ?_) (fun hq => ?_)
        · replace h := h.2.1 hq
          clear hq
          refine a_iconst (pc := 80) a dX7_isSignText_80 ?_
          exact e_z (pc := 81) a hr (by decide) dX7_isSignText_81 h
        · replace h := h.2.2 hq
          clear hq
          refine a_aload_n (pc := 66) a 1 dX7_isSignText_66 rfl rfl ?_
          refine a_iload_n (pc := 67) a 0 dX7_isSignText_67 rfl rfl ?_
          refine a_iconst (pc := 68) a dX7_isSignText_68 ?_
          refine a_iadd (pc := 69) a dX7_isSignText_69 ?_
          refine a_iconst (pc := 70) a dX7_isSignText_70 ?_
          refine a_sipush (pc := 71) a dX7_isSignText_71 (by decide) ?_
          refine a_cvi (pc := 74) a (As := [vI (x1 + 3), vI 4, vI 9999]) (rest := []) tb vc7 (fun sz => c_X7_isNumber hinj hl0  h sz) (cwV 3 hts (gl_V (GL_37 _ (by decide +kernel)) (GL_37 _ (by decide +kernel)) (GL_37 _ (by decide +kernel)) (GL_1 _ (by decide +kernel)) (GL_37 _ (by decide +kernel))) rfl rfl rfl (by decide +kernel) ⟨Nat.le_of_ble_eq_true rfl, Nat.le_of_ble_eq_true rfl⟩) rfl rfl (Nat.le_of_ble_eq_true rfl) ⟨Nat.le_of_ble_eq_true rfl, Nat.le_of_ble_eq_true rfl⟩ dX7_isSignText_74 ?_
          clear h
          intro x8 s9 h
          refine a_if_ne (pc := 77) a h.1 dX7_isSignText_77 (tgt := 82) (by decide) (fun hq => ?_) (fun hq => ?_)
          · replace h := h.2.1 hq
            clear hq
            refine a_aload_n (pc := 82) a 1 dX7_isSignText_82 rfl rfl ?_
            refine a_getI (pc := 83) a 27 27 rfl tb vc7 w2 w4 (by decide) (by decide) rfl dX7_isSignText_83 ?_
            refine a_aload_n (pc := 86) a 1 dX7_isSignText_86 rfl rfl ?_
            refine a_getI (pc := 87) a 6 6 rfl tb vc7 w2 w5 (by decide) (by decide) rfl dX7_isSignText_87 ?_
            refine a_icmp_eq (pc := 90) a h.1 h.2.1 dX7_isSignText_90 (tgt := 112) (by decide) (fun hq => ?_) (fun hq => ?_)
            · replace h := h.2.2.1 hq
              clear hq
              refine a_iconst (pc := 112) a dX7_isSignText_112 ?_
              exact e_z (pc := 113) a hr (by decide) dX7_isSignText_113 h
            · replace h := h.2.2.2 hq
              clear hq
              refine a_aload_n (pc := 93) a 1 dX7_isSignText_93 rfl rfl ?_
              refine a_getR (pc := 94) a 5 5 rfl tb vc7 w2 w6 (by decide) (by decide) 5 (q := 166) rfl rfl dX7_isSignText_94 ?_
              refine a_aload_n (pc := 97) a 1 dX7_isSignText_97 rfl rfl ?_
              refine a_getI (pc := 98) a 27 27 rfl tb vc7 w2 w4 (by decide) (by decide) rfl dX7_isSignText_98 ?_
              refine a_iald (pc := 101) a w7 (by decide) h.1 dX7_isSignText_101 ?_
              replace h := h.2
              refine a_bipush (pc := 102) a dX7_isSignText_102 (by decide) ?_
              refine a_bipush (pc := 104) a dX7_isSignText_104 (by decide) ?_
              refine a_csi (pc := 106) a (As := [vI (s9 166 (s9 161 27)), vI 48, vI 53]) (rest := []) (fun sz => c_X7_in hinj hl0  h sz) (va_cwS 3 hts (gl_S (GL_8 _ (by decide +kernel)) (GL_8 _ (by decide +kernel)) (GL_1 _ (by decide +kernel)) (GL_8 _ (by decide +kernel))) rfl rfl rfl (by decide +kernel) ⟨Nat.le_of_ble_eq_true rfl, Nat.le_of_ble_eq_true rfl⟩) rfl rfl (Nat.le_of_ble_eq_true rfl) ⟨Nat.le_of_ble_eq_true rfl, Nat.le_of_ble_eq_true rfl⟩ dX7_isSignText_106 ?_
              rintro x10 s9 ⟨hs9, h9⟩
              subst s9
              replace h := h9
              clear h9
              refine a_if_ne (pc := 109) a h.1 dX7_isSignText_109 (tgt := 114) (by decide) (fun hq => ?_) (fun hq => ?_)
              · replace h := h.2.1 hq
                clear hq
                refine a_aload_n (pc := 114) a 1 dX7_isSignText_114 rfl rfl ?_
                refine a_getR (pc := 115) a 0 0 rfl tb vc7 w2 w1 (by decide) (by decide) 1 (q := 162) rfl rfl dX7_isSignText_115 ?_
                refine a_iload_n (pc := 118) a 0 dX7_isSignText_118 rfl rfl ?_
                refine a_iconst (pc := 119) a dX7_isSignText_119 ?_
                refine a_iadd (pc := 120) a dX7_isSignText_120 ?_
                refine a_aload_n (pc := 121) a 1 dX7_isSignText_121 rfl rfl ?_
                refine a_getR (pc := 122) a 5 5 rfl tb vc7 w2 w6 (by decide) (by decide) 5 (q := 166) rfl rfl dX7_isSignText_122 ?_
                refine a_aload_n (pc := 125) a 1 dX7_isSignText_125 rfl rfl ?_
                refine a_getI (pc := 126) a 27 27 rfl tb vc7 w2 w4 (by decide) (by decide) rfl dX7_isSignText_126 ?_
                refine a_iald (pc := 129) a w7 (by decide) h.1 dX7_isSignText_129 ?_
                replace h := h.2
                refine a_bipush (pc := 130) a dX7_isSignText_130 (by decide) ?_
                refine a_isub (pc := 132) a dX7_isSignText_132 ?_
                refine a_iast (pc := 133) a w3 (by decide) h.1 dX7_isSignText_133 ?_
                replace h := h.2
                refine a_nmS (fun s11 hx => ?_)
                replace h := h s11 hx
                clear hx
                refine a_aload_n (pc := 134) a 1 dX7_isSignText_134 rfl rfl ?_
                refine a_dup (pc := 135) a rfl dX7_isSignText_135 ?_
                refine a_getI (pc := 136) a 27 27 rfl tb vc7 w2 w4 (by decide) (by decide) rfl dX7_isSignText_136 ?_
                refine a_iconst (pc := 139) a dX7_isSignText_139 ?_
                refine a_iadd (pc := 140) a dX7_isSignText_140 ?_
                refine a_putI (pc := 141) a 27 27 rfl tb vc7 w2 w4 (by decide) (by decide) tyX7 tyX7_ok nmX7 rfl rfl (by decide +kernel) dX7_isSignText_141 ?_
                refine a_nmS (fun s12 hx => ?_)
                replace h := h s12 hx
                clear hx
                refine a_aload_n (pc := 144) a 1 dX7_isSignText_144 rfl rfl ?_
                refine a_getR (pc := 145) a 0 0 rfl tb vc7 w2 w1 (by decide) (by decide) 1 (q := 162) rfl rfl dX7_isSignText_145 ?_
                refine a_bipush (pc := 148) a dX7_isSignText_148 (by decide) ?_
                refine a_dup2 (pc := 150) a rfl rfl dX7_isSignText_150 ?_
                refine a_iald (pc := 151) a w3 (by decide) (by decide) dX7_isSignText_151 ?_
                refine a_iconst (pc := 152) a dX7_isSignText_152 ?_
                refine a_iadd (pc := 153) a dX7_isSignText_153 ?_
                refine a_iast (pc := 154) a w3 (by decide) (by decide) dX7_isSignText_154 ?_
                refine a_nmS (fun s13 hx => ?_)
                replace h := h s13 hx
                clear hx
                refine a_aload_n (pc := 155) a 1 dX7_isSignText_155 rfl rfl ?_
                refine a_bipush (pc := 156) a dX7_isSignText_156 (by decide) ?_
                refine a_cvi (pc := 158) a (As := [vI 59]) (rest := []) tb vc7 (fun sz => c_X7_isByte hinj hl0  h sz) (cwV 1 hts (gl_V (GL_37 _ (by decide +kernel)) (GL_37 _ (by decide +kernel)) (GL_37 _ (by decide +kernel)) (GL_1 _ (by decide +kernel)) (GL_37 _ (by decide +kernel))) rfl rfl rfl (by decide +kernel) ⟨Nat.le_of_ble_eq_true rfl, Nat.le_of_ble_eq_true rfl⟩) rfl rfl (Nat.le_of_ble_eq_true rfl) ⟨Nat.le_of_ble_eq_true rfl, Nat.le_of_ble_eq_true rfl⟩ dX7_isSignText_158 ?_
                clear h
                intro x14 s15 h
                exact e_z (pc := 161) a hr h.1 dX7_isSignText_161 h.2
              · replace h := h.2.2 hq
                clear hq
                refine a_iconst (pc := 112) a dX7_isSignText_112 ?_
                exact e_z (pc := 113) a hr (by decide) dX7_isSignText_113 h
          · replace h := h.2.2 hq
            clear hq
            refine a_iconst (pc := 80) a dX7_isSignText_80 ?_
            exact e_z (pc := 81) a hr (by decide) dX7_isSignText_81 h
  · replace h := h.2.2 hq
    clear hq
    refine a_iconst (pc := 12) a dX7_isSignText_12 ?_
    exact e_z (pc := 13) a hr (by decide) dX7_isSignText_13 h

set_option maxRecDepth 100000 in
set_option maxHeartbeats 4000000 in
theorem c_X7_parse {l : Launch} {D : va_G} {X : XI} {ad : Nat → Nat} (hinj : adI ad) (hl0 : l.stackTraces = false)   {σ : St} {K : Int → St → Prop} (h : f_X7_parse σ K) (sz : Nat) : Met l yX7_parse (WW (.code yX7_parse cX7_parse 1 (some .int))) { frames := 4, cells := 0, slots := 0, locals := 87 } (va_Pc [Value.ref (ad 161)] (WD D X ad σ sz)) (QI D X ad sz K) 0 0 (AA ad sz) := by
  refine a_start (cc := cX7_parse) (maxL := 1) (ret := (some .int)) (own := RX7) [Value.ref (ad 161)] (by decide) rfl rfl (Nat.le_of_ble_eq_true rfl) hinj hl0 ?_
  intro p e s m below meth c a hr hsz
  subst hsz
  have hts := a.1.2.2.2.2
  have tb : tyc 161 (11, 0) := ⟨by decide, rfl⟩
  have w1 := hts (Cond.fieldLink RX7 228 "SightLegendModel" "spot" "I") (List.mem_cons_of_mem _ (GL_36 _ (by decide +kernel)))
  have w2 : ∀ w ∈ u_ws RX7 TX7 29, w ∈ WW (.code yX7_parse cX7_parse 1 (some .int)) := fun w h => List.mem_cons_of_mem _ (inlX7 w h)
  have w3 := hts (Cond.fieldLink RX7 7 "SightLegendModel" "s" "[I") (List.mem_cons_of_mem _ (GL_5 _ (by decide +kernel)))
  have w4 : tyc 162 (0, 311) := ty_of (d := 1) (t1 := (0, 311)) (by decide +kernel) rfl tb
  have w5 := hts (Cond.fieldLink RX7 225 "SightLegendModel" "typed" "I") (List.mem_cons_of_mem _ (GL_34 _ (by decide +kernel)))
  have w6 := hts (Cond.fieldLink RX7 16 "SightLegendModel" "aside" "[I") (List.mem_cons_of_mem _ (GL_5 _ (by decide +kernel)))
  have w7 : tyc 164 (0, 311) := ty_of (d := 3) (t1 := (0, 311)) (by decide +kernel) rfl tb
  unfold f_X7_parse at h
  refine a_sub (ls1 := [(0, Value.ref (ad 161))]) [0] rfl ?_
  refine a_aload_n (pc := 0) a 0 dX7_parse_0 rfl rfl ?_
  refine a_cvv (pc := 1) a (As := []) (rest := []) tb vc7 (fun sz => c_X7_hold hinj hl0  h sz) (cwV 0 hts (gl_V (GL_8 _ (by decide +kernel)) (GL_8 _ (by decide +kernel)) (GL_8 _ (by decide +kernel)) (GL_1 _ (by decide +kernel)) (GL_8 _ (by decide +kernel))) rfl rfl rfl (by decide +kernel) ⟨Nat.le_of_ble_eq_true rfl, Nat.le_of_ble_eq_true rfl⟩) rfl rfl (Nat.le_of_ble_eq_true rfl) ⟨Nat.le_of_ble_eq_true rfl, Nat.le_of_ble_eq_true rfl⟩ dX7_parse_1 ?_
  clear h
  intro s1 h
  refine a_aload_n (pc := 4) a 0 dX7_parse_4 rfl rfl ?_
  refine a_iconst (pc := 5) a dX7_parse_5 ?_
  refine a_putI (pc := 6) a 27 27 rfl tb vc7 w2 w1 (by decide) (by decide) tyX7 tyX7_ok nmX7 rfl rfl (by decide +kernel) dX7_parse_6 ?_
  refine a_nmS (fun s2 hx => ?_)
  replace h := h s2 hx
  clear hx
  refine a_aload_n (pc := 9) a 0 dX7_parse_9 rfl rfl ?_
  refine a_getR (pc := 10) a 0 0 rfl tb vc7 w2 w3 (by decide) (by decide) 1 (q := 162) rfl rfl dX7_parse_10 ?_
  refine a_bipush (pc := 13) a dX7_parse_13 (by decide) ?_
  refine a_iconst (pc := 15) a dX7_parse_15 ?_
  refine a_iast (pc := 16) a w4 (by decide) (by decide) dX7_parse_16 ?_
  refine a_nmS (fun s3 hx => ?_)
  replace h := h s3 hx
  clear hx
  refine g_wl0s [(0, Value.ref (ad 161))] h ?_
  clear h
  intro s4 ag17 hag17 h
  refine a_aload_n (pc := 17) a 0 dX7_parse_17 rfl rfl ?_
  refine a_getI (pc := 18) a 27 27 rfl tb vc7 w2 w1 (by decide) (by decide) rfl dX7_parse_18 ?_
  refine a_aload_n (pc := 21) a 0 dX7_parse_21 rfl rfl ?_
  refine a_getI (pc := 22) a 6 6 rfl tb vc7 w2 w5 (by decide) (by decide) rfl dX7_parse_22 ?_
  refine a_icmp_ge (pc := 25) a h.1 h.2.1 dX7_parse_25 (tgt := 58) (by decide) (fun hq => ?_) (fun hq => ?_)
  · replace h := h.2.2.1 hq
    clear hq
    refine a_aload_n (pc := 58) a 0 dX7_parse_58 rfl rfl ?_
    refine a_aload_n (pc := 59) a 0 dX7_parse_59 rfl rfl ?_
    refine a_getR (pc := 60) a 0 0 rfl tb vc7 w2 w3 (by decide) (by decide) 1 (q := 162) rfl rfl dX7_parse_60 ?_
    refine a_bipush (pc := 63) a dX7_parse_63 (by decide) ?_
    refine a_iald (pc := 65) a w4 (by decide) (by decide) dX7_parse_65 ?_
    refine a_cvi (pc := 66) a (As := [vI (s4 162 9)]) (rest := []) tb vc7 (fun sz => c_X7_ends hinj hl0  h sz) (cwV 1 hts (gl_V (GL_8 _ (by decide +kernel)) (GL_8 _ (by decide +kernel)) (GL_8 _ (by decide +kernel)) (GL_1 _ (by decide +kernel)) (GL_8 _ (by decide +kernel))) rfl rfl rfl (by decide +kernel) ⟨Nat.le_of_ble_eq_true rfl, Nat.le_of_ble_eq_true rfl⟩) rfl rfl (Nat.le_of_ble_eq_true rfl) ⟨Nat.le_of_ble_eq_true rfl, Nat.le_of_ble_eq_true rfl⟩ dX7_parse_66 ?_
    clear h
    intro x5 s6 h
    exact e_i (pc := 69) a hr dX7_parse_69 h
  · replace h := h.2.2.2 hq
    clear hq
    refine a_aload_n (pc := 28) a 0 dX7_parse_28 rfl rfl ?_
    refine a_cvi (pc := 29) a (As := []) (rest := []) tb vc7 (fun sz => c_X7_isSignText hinj hl0  h sz) (cwV 0 hts (gl_V (GL_36 _ (by decide +kernel)) (GL_37 _ (by decide +kernel)) (GL_37 _ (by decide +kernel)) (GL_1 _ (by decide +kernel)) (GL_37 _ (by decide +kernel))) rfl rfl rfl (by decide +kernel) ⟨Nat.le_of_ble_eq_true rfl, Nat.le_of_ble_eq_true rfl⟩) rfl rfl (Nat.le_of_ble_eq_true rfl) ⟨Nat.le_of_ble_eq_true rfl, Nat.le_of_ble_eq_true rfl⟩ dX7_parse_29 ?_
    clear h
    intro x7 s8 h
    refine a_if_ne (pc := 32) a h.1 dX7_parse_32 (tgt := 17) (by decide) (fun hq => ?_) (fun hq => ?_)
    · replace h := h.2.1 hq
      clear hq
      exact hag17 s8 h
    · replace h := h.2.2 hq
      clear hq
      refine a_aload_n (pc := 35) a 0 dX7_parse_35 rfl rfl ?_
      refine a_getR (pc := 36) a 0 0 rfl tb vc7 w2 w3 (by decide) (by decide) 1 (q := 162) rfl rfl dX7_parse_36 ?_
      refine a_aload_n (pc := 39) a 0 dX7_parse_39 rfl rfl ?_
      refine a_getR (pc := 40) a 2 2 rfl tb vc7 w2 w6 (by decide) (by decide) 3 (q := 164) rfl rfl dX7_parse_40 ?_
      refine a_csv (pc := 43) a (As := [Value.ref (ad 162), Value.ref (ad 164)]) (rest := []) (fun sz => c_X7_copies hinj hl0 w4 w7 h sz) (va_cwS 2 hts (gl_S (GL_8 _ (by decide +kernel)) (GL_8 _ (by decide +kernel)) (GL_1 _ (by decide +kernel)) (GL_8 _ (by decide +kernel))) rfl rfl rfl (by decide +kernel) ⟨Nat.le_of_ble_eq_true rfl, Nat.le_of_ble_eq_true rfl⟩) rfl rfl (Nat.le_of_ble_eq_true rfl) ⟨Nat.le_of_ble_eq_true rfl, Nat.le_of_ble_eq_true rfl⟩ dX7_parse_43 ?_
      clear h
      intro s9 h
      refine a_aload_n (pc := 46) a 0 dX7_parse_46 rfl rfl ?_
      refine a_bipush (pc := 47) a dX7_parse_47 (by decide) ?_
      refine a_aload_n (pc := 49) a 0 dX7_parse_49 rfl rfl ?_
      refine a_getI (pc := 50) a 27 27 rfl tb vc7 w2 w1 (by decide) (by decide) rfl dX7_parse_50 ?_
      refine a_isub (pc := 53) a dX7_parse_53 ?_
      refine a_cvi (pc := 54) a (As := [vI ((-10) - (s9 161 27))]) (rest := []) tb vc7 (fun sz => c_X7_tells hinj hl0  h sz) (cwV 1 hts (gl_V (GL_8 _ (by decide +kernel)) (GL_8 _ (by decide +kernel)) (GL_8 _ (by decide +kernel)) (GL_1 _ (by decide +kernel)) (GL_9 _ (by decide +kernel))) rfl rfl rfl (by decide +kernel) ⟨Nat.le_of_ble_eq_true rfl, Nat.le_of_ble_eq_true rfl⟩) rfl rfl (Nat.le_of_ble_eq_true rfl) ⟨Nat.le_of_ble_eq_true rfl, Nat.le_of_ble_eq_true rfl⟩ dX7_parse_54 ?_
      clear h
      intro x10 s11 h
      exact e_i (pc := 57) a hr dX7_parse_57 h

set_option maxRecDepth 100000 in
set_option maxHeartbeats 4000000 in
theorem c_X7_undo {l : Launch} {D : va_G} {X : XI} {ad : Nat → Nat} (hinj : adI ad) (hl0 : l.stackTraces = false)   {σ : St} {K : Int → St → Prop} (h : f_X7_undo σ K) (sz : Nat) : Met l yX7_undo (WW (.code yX7_undo cX7_undo 2 (some .int))) { frames := 1, cells := 0, slots := 0, locals := 21 } (va_Pc [Value.ref (ad 161)] (WD D X ad σ sz)) (QI D X ad sz K) 0 0 (AA ad sz) := by
  refine a_start (cc := cX7_undo) (maxL := 2) (ret := (some .int)) (own := RX7) [Value.ref (ad 161)] (by decide) rfl rfl (Nat.le_of_ble_eq_true rfl) hinj hl0 ?_
  intro p e s m below meth c a hr hsz
  subst hsz
  have hts := a.1.2.2.2.2
  have tb : tyc 161 (11, 0) := ⟨by decide, rfl⟩
  have w1 := hts (Cond.fieldLink RX7 61 "SightLegendModel" "pasts" "I") (List.mem_cons_of_mem _ (GL_8 _ (by decide +kernel)))
  have w2 : ∀ w ∈ u_ws RX7 TX7 29, w ∈ WW (.code yX7_undo cX7_undo 2 (some .int)) := fun w h => List.mem_cons_of_mem _ (inlX7 w h)
  have w3 := hts (Cond.fieldLink RX7 7 "SightLegendModel" "s" "[I") (List.mem_cons_of_mem _ (GL_5 _ (by decide +kernel)))
  have w4 : tyc 162 (0, 311) := ty_of (d := 1) (t1 := (0, 311)) (by decide +kernel) rfl tb
  have w5 := hts (Cond.fieldLink RX7 13 "SightLegendModel" "past" "[I") (List.mem_cons_of_mem _ (GL_5 _ (by decide +kernel)))
  have w6 : tyc 163 (0, 1244) := ty_of (d := 2) (t1 := (0, 1244)) (by decide +kernel) rfl tb
  unfold f_X7_undo at h
  refine a_sub (ls1 := [(0, Value.ref (ad 161))]) [0] rfl ?_
  refine a_aload_n (pc := 0) a 0 dX7_undo_0 rfl rfl ?_
  refine a_getI (pc := 1) a 4 4 rfl tb vc7 w2 w1 (by decide) (by decide) rfl dX7_undo_1 ?_
  refine a_if_ne (pc := 4) a h.1 dX7_undo_4 (tgt := 13) (by decide) (fun hq => ?_) (fun hq => ?_)
  · replace h := h.2.1 hq
    clear hq
    refine a_aload_n (pc := 13) a 0 dX7_undo_13 rfl rfl ?_
    refine a_dup (pc := 14) a rfl dX7_undo_14 ?_
    refine a_getI (pc := 15) a 4 4 rfl tb vc7 w2 w1 (by decide) (by decide) rfl dX7_undo_15 ?_
    refine a_iconst (pc := 18) a dX7_undo_18 ?_
    refine a_isub (pc := 19) a dX7_undo_19 ?_
    refine a_putI (pc := 20) a 4 4 rfl tb vc7 w2 w1 (by decide) (by decide) tyX7 tyX7_ok nmX7 rfl rfl (by decide +kernel) dX7_undo_20 ?_
    refine a_nmS (fun s1 hx => ?_)
    replace h := h s1 hx
    clear hx
    refine a_iconst (pc := 23) a dX7_undo_23 ?_
    refine a_istore_n (pc := 24) a (ls1 := [(1, vI 0), (0, Value.ref (ad 161))]) dX7_undo_24 rfl (by decide) rfl ?_
    refine a_sub (ls1 := [(0, Value.ref (ad 161)), (1, vI 0)]) [1, 0] rfl ?_
    refine g_wl1s (fun x2 => [(0, Value.ref (ad 161)), (1, vI x2)]) h ?_
    clear h
    intro x2 s3 ag25 hag25 h
    refine a_iload_n (pc := 25) a 1 dX7_undo_25 rfl rfl ?_
    refine a_sipush (pc := 26) a dX7_undo_26 (by decide) ?_
    refine a_icmp_ge (pc := 29) a h.1 ⟨by decide, by decide⟩ dX7_undo_29 (tgt := 59) (by decide) (fun hq => ?_) (fun hq => ?_)
    · replace h := h.2.1 hq
      clear hq
      refine a_aload_n (pc := 59) a 0 dX7_undo_59 rfl rfl ?_
      refine a_aload_n (pc := 60) a 0 dX7_undo_60 rfl rfl ?_
      refine a_getI (pc := 61) a 4 4 rfl tb vc7 w2 w1 (by decide) (by decide) rfl dX7_undo_61 ?_
      refine a_cvi (pc := 64) a (As := [vI (s3 161 4)]) (rest := []) tb vc7 (fun sz => c_X7_tells hinj hl0  h sz) (cwV 1 hts (gl_V (GL_8 _ (by decide +kernel)) (GL_8 _ (by decide +kernel)) (GL_8 _ (by decide +kernel)) (GL_1 _ (by decide +kernel)) (GL_9 _ (by decide +kernel))) rfl rfl rfl (by decide +kernel) ⟨Nat.le_of_ble_eq_true rfl, Nat.le_of_ble_eq_true rfl⟩) rfl rfl (Nat.le_of_ble_eq_true rfl) ⟨Nat.le_of_ble_eq_true rfl, Nat.le_of_ble_eq_true rfl⟩ dX7_undo_64 ?_
      clear h
      intro x4 s5 h
      exact e_i (pc := 67) a hr dX7_undo_67 h
    · replace h := h.2.2 hq
      clear hq
      refine a_aload_n (pc := 32) a 0 dX7_undo_32 rfl rfl ?_
      refine a_getR (pc := 33) a 0 0 rfl tb vc7 w2 w3 (by decide) (by decide) 1 (q := 162) rfl rfl dX7_undo_33 ?_
      refine a_iload_n (pc := 36) a 1 dX7_undo_36 rfl rfl ?_
      refine a_aload_n (pc := 37) a 0 dX7_undo_37 rfl rfl ?_
      refine a_getR (pc := 38) a 1 1 rfl tb vc7 w2 w5 (by decide) (by decide) 2 (q := 163) rfl rfl dX7_undo_38 ?_
      refine a_sipush (pc := 41) a dX7_undo_41 (by decide) ?_
      refine a_aload_n (pc := 44) a 0 dX7_undo_44 rfl rfl ?_
      refine a_getI (pc := 45) a 4 4 rfl tb vc7 w2 w1 (by decide) (by decide) rfl dX7_undo_45 ?_
      refine a_imul (pc := 48) a dX7_undo_48 ?_
      refine a_iload_n (pc := 49) a 1 dX7_undo_49 rfl rfl ?_
      refine a_iadd (pc := 50) a dX7_undo_50 ?_
      refine a_iald (pc := 51) a w6 (by decide) h.1 dX7_undo_51 ?_
      replace h := h.2
      refine a_iast (pc := 52) a w4 (by decide) h.1 dX7_undo_52 ?_
      replace h := h.2
      refine a_nmS (fun s6 hx => ?_)
      replace h := h s6 hx
      clear hx
      refine a_iinc (pc := 53) a (ls1 := [(1, vI (x2 + 1)), (0, Value.ref (ad 161))]) 1 dX7_undo_53 rfl (by decide) rfl ?_
      refine a_goto (pc := 56) a dX7_undo_56 (tgt := 25) (by decide) ?_
      refine a_sub (ls1 := [(0, Value.ref (ad 161)), (1, vI (x2 + 1))]) [1, 0] rfl ?_
      exact hag25 (x2 + 1) s6 h
  · replace h := h.2.2 hq
    clear hq
    refine a_aload_n (pc := 7) a 0 dX7_undo_7 rfl rfl ?_
    refine a_iconst (pc := 8) a dX7_undo_8 ?_
    refine a_cvi (pc := 9) a (As := [vI 1]) (rest := []) tb vc7 (fun sz => c_X7_fails hinj hl0  h sz) (cwV 1 hts (gl_V (GL_8 _ (by decide +kernel)) (GL_8 _ (by decide +kernel)) (GL_8 _ (by decide +kernel)) (GL_1 _ (by decide +kernel)) (GL_8 _ (by decide +kernel))) rfl rfl rfl (by decide +kernel) ⟨Nat.le_of_ble_eq_true rfl, Nat.le_of_ble_eq_true rfl⟩) rfl rfl (Nat.le_of_ble_eq_true rfl) ⟨Nat.le_of_ble_eq_true rfl, Nat.le_of_ble_eq_true rfl⟩ dX7_undo_9 ?_
    clear h
    intro x7 s8 h
    exact e_i (pc := 12) a hr dX7_undo_12 h

set_option maxRecDepth 100000 in
set_option maxHeartbeats 4000000 in
theorem c_X7_mix {l : Launch} {D : va_G} {X : XI} {ad : Nat → Nat} (hinj : adI ad) (hl0 : l.stackTraces = false) {p1 : Int}  {σ : St} {K : St → Prop} (h : f_X7_mix p1 σ K) (sz : Nat) : Met l yX7_mix (WW (.code yX7_mix cX7_mix 2 none)) { frames := 0, cells := 0, slots := 0, locals := 0 } (va_Pc [Value.ref (ad 161), vI p1] (WD D X ad σ sz)) (QV D X ad sz K) 0 0 (AA ad sz) := by
  refine a_start (cc := cX7_mix) (maxL := 2) (ret := none) (own := RX7) [Value.ref (ad 161), vI p1] (by decide) rfl rfl (Nat.le_of_ble_eq_true rfl) hinj hl0 ?_
  intro p e s m below meth c a hr hsz
  subst hsz
  have hts := a.1.2.2.2.2
  have tb : tyc 161 (11, 0) := ⟨by decide, rfl⟩
  have w1 := hts (Cond.constantLong RX7 243 (iJ 31)) (List.mem_cons_of_mem _ (GL_39 _ (by decide +kernel)))
  have w2 := hts (Cond.fieldLink RX7 245 "SightLegendModel" "h" "J") (List.mem_cons_of_mem _ (GL_39 _ (by decide +kernel)))
  have w3 : ∀ w ∈ u_ws RX7 TX7 29, w ∈ WW (.code yX7_mix cX7_mix 2 none) := fun w h => List.mem_cons_of_mem _ (inlX7 w h)
  unfold f_X7_mix at h
  refine a_sub (ls1 := [(0, Value.ref (ad 161)), (1, vI p1)]) [0, 1] rfl ?_
  refine a_aload_n (pc := 0) a 0 dX7_mix_0 rfl rfl ?_
  refine a_ldc2 (pc := 1) a (n := 31) w1 dX7_mix_1 ?_
  refine a_aload_n (pc := 4) a 0 dX7_mix_4 rfl rfl ?_
  refine a_getJ (pc := 5) a 28 28 rfl tb vc7 w3 w2 (by decide) (by decide) rfl dX7_mix_5 ?_
  refine a_lmul (pc := 8) a dX7_mix_8 ?_
  refine a_iload_n (pc := 9) a 1 dX7_mix_9 rfl rfl ?_
  refine a_i2l (pc := 10) a h.1 dX7_mix_10 ?_
  replace h := h.2
  refine a_ladd (pc := 11) a dX7_mix_11 ?_
  refine a_putJ (pc := 12) a 28 28 rfl tb vc7 w3 w2 (by decide) (by decide) tyX7 tyX7_ok nmX7 rfl rfl (by decide +kernel) dX7_mix_12 ?_
  refine a_nmS (fun s1 hx => ?_)
  replace h := h s1 hx
  clear hx
  exact e_v (pc := 15) a hr dX7_mix_15 h

set_option maxRecDepth 100000 in
set_option maxHeartbeats 4000000 in
theorem c_X7_mixLegend {l : Launch} {D : va_G} {X : XI} {ad : Nat → Nat} (hinj : adI ad) (hl0 : l.stackTraces = false)   {σ : St} {K : St → Prop} (h : f_X7_mixLegend σ K) (sz : Nat) : Met l yX7_mixLegend (WW (.code yX7_mixLegend cX7_mixLegend 2 none)) { frames := 5, cells := 0, slots := 0, locals := 112 } (va_Pc [Value.ref (ad 161)] (WD D X ad σ sz)) (QV D X ad sz K) 0 0 (AA ad sz) := by
  refine a_start (cc := cX7_mixLegend) (maxL := 2) (ret := none) (own := RX7) [Value.ref (ad 161)] (by decide) rfl rfl (Nat.le_of_ble_eq_true rfl) hinj hl0 ?_
  intro p e s m below meth c a hr hsz
  subst hsz
  have hts := a.1.2.2.2.2
  have tb : tyc 161 (11, 0) := ⟨by decide, rfl⟩
  have w1 := hts (Cond.fieldLink RX7 7 "SightLegendModel" "s" "[I") (List.mem_cons_of_mem _ (GL_5 _ (by decide +kernel)))
  have w2 : ∀ w ∈ u_ws RX7 TX7 29, w ∈ WW (.code yX7_mixLegend cX7_mixLegend 2 none) := fun w h => List.mem_cons_of_mem _ (inlX7 w h)
  have w3 : tyc 162 (0, 311) := ty_of (d := 1) (t1 := (0, 311)) (by decide +kernel) rfl tb
  have w4 := hts (Cond.fieldLink RX7 83 "SightLegendModel" "lines" "I") (List.mem_cons_of_mem _ (GL_22 _ (by decide +kernel)))
  unfold f_X7_mixLegend at h
  refine a_sub (ls1 := [(0, Value.ref (ad 161))]) [0] rfl ?_
  refine a_iconst (pc := 0) a dX7_mixLegend_0 ?_
  refine a_istore_n (pc := 1) a (ls1 := [(1, vI 0), (0, Value.ref (ad 161))]) dX7_mixLegend_1 rfl (by decide) rfl ?_
  refine a_sub (ls1 := [(0, Value.ref (ad 161)), (1, vI 0)]) [1, 0] rfl ?_
  refine g_wl1s (fun x1 => [(0, Value.ref (ad 161)), (1, vI x1)]) h ?_
  clear h
  intro x1 s2 ag2 hag2 h
  refine a_iload_n (pc := 2) a 1 dX7_mixLegend_2 rfl rfl ?_
  refine a_bipush (pc := 3) a dX7_mixLegend_3 (by decide) ?_
  refine a_aload_n (pc := 5) a 0 dX7_mixLegend_5 rfl rfl ?_
  refine a_getR (pc := 6) a 0 0 rfl tb vc7 w2 w1 (by decide) (by decide) 1 (q := 162) rfl rfl dX7_mixLegend_6 ?_
  refine a_bipush (pc := 9) a dX7_mixLegend_9 (by decide) ?_
  refine a_iald (pc := 11) a w3 (by decide) (by decide) dX7_mixLegend_11 ?_
  refine a_imul (pc := 12) a dX7_mixLegend_12 ?_
  refine a_icmp_ge (pc := 13) a h.1 h.2.1 dX7_mixLegend_13 (tgt := 38) (by decide) (fun hq => ?_) (fun hq => ?_)
  · replace h := h.2.2.1 hq
    clear hq
    refine a_iconst (pc := 38) a dX7_mixLegend_38 ?_
    refine a_istore_n (pc := 39) a (ls1 := [(1, vI 0), (0, Value.ref (ad 161))]) dX7_mixLegend_39 rfl (by decide) rfl ?_
    refine a_sub (ls1 := [(0, Value.ref (ad 161)), (1, vI 0)]) [1, 0] rfl ?_
    refine g_wl1s (fun x3 => [(0, Value.ref (ad 161)), (1, vI x3)]) h ?_
    clear h
    intro x3 s4 ag40 hag40 h
    refine a_iload_n (pc := 40) a 1 dX7_mixLegend_40 rfl rfl ?_
    refine a_bipush (pc := 41) a dX7_mixLegend_41 (by decide) ?_
    refine a_aload_n (pc := 43) a 0 dX7_mixLegend_43 rfl rfl ?_
    refine a_getI (pc := 44) a 13 13 rfl tb vc7 w2 w4 (by decide) (by decide) rfl dX7_mixLegend_44 ?_
    refine a_imul (pc := 47) a dX7_mixLegend_47 ?_
    refine a_icmp_ge (pc := 48) a h.1 h.2.1 dX7_mixLegend_48 (tgt := 73) (by decide) (fun hq => ?_) (fun hq => ?_)
    · replace h := h.2.2.1 hq
      clear hq
      refine a_iconst (pc := 73) a dX7_mixLegend_73 ?_
      refine a_istore_n (pc := 74) a (ls1 := [(1, vI 0), (0, Value.ref (ad 161))]) dX7_mixLegend_74 rfl (by decide) rfl ?_
      refine a_sub (ls1 := [(0, Value.ref (ad 161)), (1, vI 0)]) [1, 0] rfl ?_
      refine g_wl1s (fun x5 => [(0, Value.ref (ad 161)), (1, vI x5)]) h ?_
      clear h
      intro x5 s6 ag75 hag75 h
      refine a_iload_n (pc := 75) a 1 dX7_mixLegend_75 rfl rfl ?_
      refine a_bipush (pc := 76) a dX7_mixLegend_76 (by decide) ?_
      refine a_icmp_ge (pc := 78) a h.1 ⟨by decide, by decide⟩ dX7_mixLegend_78 (tgt := 96) (by decide) (fun hq => ?_) (fun hq => ?_)
      · replace h := h.2.1 hq
        clear hq
        refine a_iconst (pc := 96) a dX7_mixLegend_96 ?_
        refine a_istore_n (pc := 97) a (ls1 := [(1, vI 0), (0, Value.ref (ad 161))]) dX7_mixLegend_97 rfl (by decide) rfl ?_
        refine a_sub (ls1 := [(0, Value.ref (ad 161)), (1, vI 0)]) [1, 0] rfl ?_
        refine g_wl1s (fun x7 => [(0, Value.ref (ad 161)), (1, vI x7)]) h ?_
        clear h
        intro x7 s8 ag98 hag98 h
        refine a_iload_n (pc := 98) a 1 dX7_mixLegend_98 rfl rfl ?_
        refine a_iconst (pc := 99) a dX7_mixLegend_99 ?_
        refine a_icmp_ge (pc := 100) a h.1 ⟨by decide, by decide⟩ dX7_mixLegend_100 (tgt := 118) (by decide) (fun hq => ?_) (fun hq => ?_)
        · replace h := h.2.1 hq
          clear hq
          exact e_v (pc := 118) a hr dX7_mixLegend_118 h
        · replace h := h.2.2 hq
          clear hq
          refine a_aload_n (pc := 103) a 0 dX7_mixLegend_103 rfl rfl ?_
          refine a_aload_n (pc := 104) a 0 dX7_mixLegend_104 rfl rfl ?_
          refine a_iload_n (pc := 105) a 1 dX7_mixLegend_105 rfl rfl ?_
          refine a_cvi (pc := 106) a (As := [vI x7]) (rest := [Value.ref (ad 161)]) tb vc7 (fun sz => c_X7_roundsOf hinj hl0  h sz) (cwV 1 hts (gl_V (GL_31 _ (by decide +kernel)) (GL_31 _ (by decide +kernel)) (GL_31 _ (by decide +kernel)) (GL_1 _ (by decide +kernel)) (GL_31 _ (by decide +kernel))) rfl rfl rfl (by decide +kernel) ⟨Nat.le_of_ble_eq_true rfl, Nat.le_of_ble_eq_true rfl⟩) rfl rfl (Nat.le_of_ble_eq_true rfl) ⟨Nat.le_of_ble_eq_true rfl, Nat.le_of_ble_eq_true rfl⟩ dX7_mixLegend_106 ?_
          rintro x9 s9 ⟨hs9, h9⟩
          subst s9
          replace h := h9
          clear h9
          refine a_cvv (pc := 109) a (As := [vI x9]) (rest := []) tb vc7 (fun sz => c_X7_mix hinj hl0  h sz) (cwV 1 hts (gl_V (GL_39 _ (by decide +kernel)) (GL_39 _ (by decide +kernel)) (GL_39 _ (by decide +kernel)) (GL_1 _ (by decide +kernel)) (GL_39 _ (by decide +kernel))) rfl rfl rfl (by decide +kernel) ⟨Nat.le_of_ble_eq_true rfl, Nat.le_of_ble_eq_true rfl⟩) rfl rfl (Nat.le_of_ble_eq_true rfl) ⟨Nat.le_of_ble_eq_true rfl, Nat.le_of_ble_eq_true rfl⟩ dX7_mixLegend_109 ?_
          clear h
          intro s10 h
          refine a_iinc (pc := 112) a (ls1 := [(1, vI (x7 + 1)), (0, Value.ref (ad 161))]) 1 dX7_mixLegend_112 rfl (by decide) rfl ?_
          refine a_goto (pc := 115) a dX7_mixLegend_115 (tgt := 98) (by decide) ?_
          refine a_sub (ls1 := [(0, Value.ref (ad 161)), (1, vI (x7 + 1))]) [1, 0] rfl ?_
          exact hag98 (x7 + 1) s10 h
      · replace h := h.2.2 hq
        clear hq
        refine a_aload_n (pc := 81) a 0 dX7_mixLegend_81 rfl rfl ?_
        refine a_aload_n (pc := 82) a 0 dX7_mixLegend_82 rfl rfl ?_
        refine a_iload_n (pc := 83) a 1 dX7_mixLegend_83 rfl rfl ?_
        refine a_cvi (pc := 84) a (As := [vI x5]) (rest := [Value.ref (ad 161)]) tb vc7 (fun sz => c_X7_boxOf hinj hl0  h sz) (cwV 1 hts (gl_V (GL_30 _ (by decide +kernel)) (GL_30 _ (by decide +kernel)) (GL_30 _ (by decide +kernel)) (GL_1 _ (by decide +kernel)) (GL_30 _ (by decide +kernel))) rfl rfl rfl (by decide +kernel) ⟨Nat.le_of_ble_eq_true rfl, Nat.le_of_ble_eq_true rfl⟩) rfl rfl (Nat.le_of_ble_eq_true rfl) ⟨Nat.le_of_ble_eq_true rfl, Nat.le_of_ble_eq_true rfl⟩ dX7_mixLegend_84 ?_
        rintro x11 s9 ⟨hs9, h9⟩
        subst s9
        replace h := h9
        clear h9
        refine a_cvv (pc := 87) a (As := [vI x11]) (rest := []) tb vc7 (fun sz => c_X7_mix hinj hl0  h sz) (cwV 1 hts (gl_V (GL_39 _ (by decide +kernel)) (GL_39 _ (by decide +kernel)) (GL_39 _ (by decide +kernel)) (GL_1 _ (by decide +kernel)) (GL_39 _ (by decide +kernel))) rfl rfl rfl (by decide +kernel) ⟨Nat.le_of_ble_eq_true rfl, Nat.le_of_ble_eq_true rfl⟩) rfl rfl (Nat.le_of_ble_eq_true rfl) ⟨Nat.le_of_ble_eq_true rfl, Nat.le_of_ble_eq_true rfl⟩ dX7_mixLegend_87 ?_
        clear h
        intro s12 h
        refine a_iinc (pc := 90) a (ls1 := [(1, vI (x5 + 1)), (0, Value.ref (ad 161))]) 1 dX7_mixLegend_90 rfl (by decide) rfl ?_
        refine a_goto (pc := 93) a dX7_mixLegend_93 (tgt := 75) (by decide) ?_
        refine a_sub (ls1 := [(0, Value.ref (ad 161)), (1, vI (x5 + 1))]) [1, 0] rfl ?_
        exact hag75 (x5 + 1) s12 h
    · replace h := h.2.2.2 hq
      clear hq
      refine a_aload_n (pc := 51) a 0 dX7_mixLegend_51 rfl rfl ?_
      refine a_aload_n (pc := 52) a 0 dX7_mixLegend_52 rfl rfl ?_
      refine a_iload_n (pc := 53) a 1 dX7_mixLegend_53 rfl rfl ?_
      refine a_bipush (pc := 54) a dX7_mixLegend_54 (by decide) ?_
      refine a_idiv (pc := 56) a dX7_mixLegend_56 h.1 (by decide) ?_
      replace h := h.2
      refine a_iload_n (pc := 57) a 1 dX7_mixLegend_57 rfl rfl ?_
      refine a_bipush (pc := 58) a dX7_mixLegend_58 (by decide) ?_
      refine a_irem (pc := 60) a dX7_mixLegend_60 h.1 (by decide) ?_
      replace h := h.2
      refine a_cvi (pc := 61) a (As := [vI (x3 / 8), vI (x3 % 8)]) (rest := [Value.ref (ad 161)]) tb vc7 (fun sz => c_X7_lineOf hinj hl0  h sz) (cwV 2 hts (gl_V (GL_29 _ (by decide +kernel)) (GL_29 _ (by decide +kernel)) (GL_29 _ (by decide +kernel)) (GL_1 _ (by decide +kernel)) (GL_29 _ (by decide +kernel))) rfl rfl rfl (by decide +kernel) ⟨Nat.le_of_ble_eq_true rfl, Nat.le_of_ble_eq_true rfl⟩) rfl rfl (Nat.le_of_ble_eq_true rfl) ⟨Nat.le_of_ble_eq_true rfl, Nat.le_of_ble_eq_true rfl⟩ dX7_mixLegend_61 ?_
      rintro x13 s9 ⟨hs9, h9⟩
      subst s9
      replace h := h9
      clear h9
      refine a_cvv (pc := 64) a (As := [vI x13]) (rest := []) tb vc7 (fun sz => c_X7_mix hinj hl0  h sz) (cwV 1 hts (gl_V (GL_39 _ (by decide +kernel)) (GL_39 _ (by decide +kernel)) (GL_39 _ (by decide +kernel)) (GL_1 _ (by decide +kernel)) (GL_39 _ (by decide +kernel))) rfl rfl rfl (by decide +kernel) ⟨Nat.le_of_ble_eq_true rfl, Nat.le_of_ble_eq_true rfl⟩) rfl rfl (Nat.le_of_ble_eq_true rfl) ⟨Nat.le_of_ble_eq_true rfl, Nat.le_of_ble_eq_true rfl⟩ dX7_mixLegend_64 ?_
      clear h
      intro s14 h
      refine a_iinc (pc := 67) a (ls1 := [(1, vI (x3 + 1)), (0, Value.ref (ad 161))]) 1 dX7_mixLegend_67 rfl (by decide) rfl ?_
      refine a_goto (pc := 70) a dX7_mixLegend_70 (tgt := 40) (by decide) ?_
      refine a_sub (ls1 := [(0, Value.ref (ad 161)), (1, vI (x3 + 1))]) [1, 0] rfl ?_
      exact hag40 (x3 + 1) s14 h
  · replace h := h.2.2.2 hq
    clear hq
    refine a_aload_n (pc := 16) a 0 dX7_mixLegend_16 rfl rfl ?_
    refine a_aload_n (pc := 17) a 0 dX7_mixLegend_17 rfl rfl ?_
    refine a_iload_n (pc := 18) a 1 dX7_mixLegend_18 rfl rfl ?_
    refine a_bipush (pc := 19) a dX7_mixLegend_19 (by decide) ?_
    refine a_idiv (pc := 21) a dX7_mixLegend_21 h.1 (by decide) ?_
    replace h := h.2
    refine a_iload_n (pc := 22) a 1 dX7_mixLegend_22 rfl rfl ?_
    refine a_bipush (pc := 23) a dX7_mixLegend_23 (by decide) ?_
    refine a_irem (pc := 25) a dX7_mixLegend_25 h.1 (by decide) ?_
    replace h := h.2
    refine a_cvi (pc := 26) a (As := [vI (x1 / 9), vI (x1 % 9)]) (rest := [Value.ref (ad 161)]) tb vc7 (fun sz => c_X7_signOf hinj hl0  h sz) (cwV 2 hts (gl_V (GL_26 _ (by decide +kernel)) (GL_26 _ (by decide +kernel)) (GL_26 _ (by decide +kernel)) (GL_1 _ (by decide +kernel)) (GL_26 _ (by decide +kernel))) rfl rfl rfl (by decide +kernel) ⟨Nat.le_of_ble_eq_true rfl, Nat.le_of_ble_eq_true rfl⟩) rfl rfl (Nat.le_of_ble_eq_true rfl) ⟨Nat.le_of_ble_eq_true rfl, Nat.le_of_ble_eq_true rfl⟩ dX7_mixLegend_26 ?_
    rintro x15 s9 ⟨hs9, h9⟩
    subst s9
    replace h := h9
    clear h9
    refine a_cvv (pc := 29) a (As := [vI x15]) (rest := []) tb vc7 (fun sz => c_X7_mix hinj hl0  h sz) (cwV 1 hts (gl_V (GL_39 _ (by decide +kernel)) (GL_39 _ (by decide +kernel)) (GL_39 _ (by decide +kernel)) (GL_1 _ (by decide +kernel)) (GL_39 _ (by decide +kernel))) rfl rfl rfl (by decide +kernel) ⟨Nat.le_of_ble_eq_true rfl, Nat.le_of_ble_eq_true rfl⟩) rfl rfl (Nat.le_of_ble_eq_true rfl) ⟨Nat.le_of_ble_eq_true rfl, Nat.le_of_ble_eq_true rfl⟩ dX7_mixLegend_29 ?_
    clear h
    intro s16 h
    refine a_iinc (pc := 32) a (ls1 := [(1, vI (x1 + 1)), (0, Value.ref (ad 161))]) 1 dX7_mixLegend_32 rfl (by decide) rfl ?_
    refine a_goto (pc := 35) a dX7_mixLegend_35 (tgt := 2) (by decide) ?_
    refine a_sub (ls1 := [(0, Value.ref (ad 161)), (1, vI (x1 + 1))]) [1, 0] rfl ?_
    exact hag2 (x1 + 1) s16 h

set_option maxRecDepth 100000 in
set_option maxHeartbeats 4000000 in
theorem c_X7_digest {l : Launch} {D : va_G} {X : XI} {ad : Nat → Nat} (hinj : adI ad) (hl0 : l.stackTraces = false)   {σ : St} {K : Int → St → Prop} (h : f_X7_digest σ K) (sz : Nat) : Met l yX7_digest (WW (.code yX7_digest cX7_digest 2 (some .long))) { frames := 8, cells := 0, slots := 0, locals := 182 } (va_Pc [Value.ref (ad 161)] (WD D X ad σ sz)) (QJ D X ad sz K) 0 0 (AA ad sz) := by
  refine a_start (cc := cX7_digest) (maxL := 2) (ret := (some .long)) (own := RX7) [Value.ref (ad 161)] (by decide) rfl rfl (Nat.le_of_ble_eq_true rfl) hinj hl0 ?_
  intro p e s m below meth c a hr hsz
  subst hsz
  have hts := a.1.2.2.2.2
  have tb : tyc 161 (11, 0) := ⟨by decide, rfl⟩
  have w1 := hts (Cond.fieldLink RX7 53 "SightLegendModel" "thrown" "I") (List.mem_cons_of_mem _ (GL_8 _ (by decide +kernel)))
  have w2 : ∀ w ∈ u_ws RX7 TX7 29, w ∈ WW (.code yX7_digest cX7_digest 2 (some .long)) := fun w h => List.mem_cons_of_mem _ (inlX7 w h)
  have w3 := hts (Cond.constantLong RX7 252 (iJ 3391)) (List.mem_cons_of_mem _ (GL_39 _ (by decide +kernel)))
  have w4 := hts (Cond.fieldLink RX7 245 "SightLegendModel" "h" "J") (List.mem_cons_of_mem _ (GL_39 _ (by decide +kernel)))
  have w5 := hts (Cond.fieldLink RX7 225 "SightLegendModel" "typed" "I") (List.mem_cons_of_mem _ (GL_34 _ (by decide +kernel)))
  have w6 := hts (Cond.fieldLink RX7 61 "SightLegendModel" "pasts" "I") (List.mem_cons_of_mem _ (GL_8 _ (by decide +kernel)))
  have w7 := hts (Cond.fieldLink RX7 7 "SightLegendModel" "s" "[I") (List.mem_cons_of_mem _ (GL_5 _ (by decide +kernel)))
  have w8 : tyc 162 (0, 311) := ty_of (d := 1) (t1 := (0, 311)) (by decide +kernel) rfl tb
  unfold f_X7_digest at h
  refine a_sub (ls1 := [(0, Value.ref (ad 161))]) [0] rfl ?_
  refine a_aload_n (pc := 0) a 0 dX7_digest_0 rfl rfl ?_
  refine a_iconst (pc := 1) a dX7_digest_1 ?_
  refine a_putI (pc := 2) a 7 7 rfl tb vc7 w2 w1 (by decide) (by decide) tyX7 tyX7_ok nmX7 rfl rfl (by decide +kernel) dX7_digest_2 ?_
  refine a_nmS (fun s1 hx => ?_)
  replace h := h s1 hx
  clear hx
  refine a_aload_n (pc := 5) a 0 dX7_digest_5 rfl rfl ?_
  refine a_cvv (pc := 6) a (As := []) (rest := []) tb vc7 (fun sz => c_X7_makes hinj hl0  h sz) (cwV 0 hts (gl_V (GL_21 _ (by decide +kernel)) (GL_21 _ (by decide +kernel)) (GL_22 _ (by decide +kernel)) (GL_1 _ (by decide +kernel)) (GL_22 _ (by decide +kernel))) rfl rfl rfl (by decide +kernel) ⟨Nat.le_of_ble_eq_true rfl, Nat.le_of_ble_eq_true rfl⟩) rfl rfl (Nat.le_of_ble_eq_true rfl) ⟨Nat.le_of_ble_eq_true rfl, Nat.le_of_ble_eq_true rfl⟩ dX7_digest_6 ?_
  clear h
  intro s2 h
  refine a_aload_n (pc := 9) a 0 dX7_digest_9 rfl rfl ?_
  refine a_ldc2 (pc := 10) a (n := 3391) w3 dX7_digest_10 ?_
  refine a_putJ (pc := 13) a 28 28 rfl tb vc7 w2 w4 (by decide) (by decide) tyX7 tyX7_ok nmX7 rfl rfl (by decide +kernel) dX7_digest_13 ?_
  refine a_nmS (fun s3 hx => ?_)
  replace h := h s3 hx
  clear hx
  refine a_aload_n (pc := 16) a 0 dX7_digest_16 rfl rfl ?_
  refine a_aload_n (pc := 17) a 0 dX7_digest_17 rfl rfl ?_
  refine a_getI (pc := 18) a 6 6 rfl tb vc7 w2 w5 (by decide) (by decide) rfl dX7_digest_18 ?_
  refine a_cvv (pc := 21) a (As := [vI (s3 161 6)]) (rest := []) tb vc7 (fun sz => c_X7_mix hinj hl0  h sz) (cwV 1 hts (gl_V (GL_39 _ (by decide +kernel)) (GL_39 _ (by decide +kernel)) (GL_39 _ (by decide +kernel)) (GL_1 _ (by decide +kernel)) (GL_39 _ (by decide +kernel))) rfl rfl rfl (by decide +kernel) ⟨Nat.le_of_ble_eq_true rfl, Nat.le_of_ble_eq_true rfl⟩) rfl rfl (Nat.le_of_ble_eq_true rfl) ⟨Nat.le_of_ble_eq_true rfl, Nat.le_of_ble_eq_true rfl⟩ dX7_digest_21 ?_
  clear h
  intro s4 h
  refine a_iconst (pc := 24) a dX7_digest_24 ?_
  refine a_istore_n (pc := 25) a (ls1 := [(1, vI 0), (0, Value.ref (ad 161))]) dX7_digest_25 rfl (by decide) rfl ?_
  refine a_sub (ls1 := [(0, Value.ref (ad 161)), (1, vI 0)]) [1, 0] rfl ?_
  refine g_wl1s (fun x5 => [(0, Value.ref (ad 161)), (1, vI x5)]) h ?_
  clear h
  intro x5 s6 ag26 hag26 h
  refine a_iload_n (pc := 26) a 1 dX7_digest_26 rfl rfl ?_
  refine a_bipush (pc := 27) a dX7_digest_27 (by decide) ?_
  refine a_icmp_ge (pc := 29) a h.1 ⟨by decide, by decide⟩ dX7_digest_29 (tgt := 47) (by decide) (fun hq => ?_) (fun hq => ?_)
  · replace h := h.2.1 hq
    clear hq
    refine a_iconst (pc := 47) a dX7_digest_47 ?_
    refine a_istore_n (pc := 48) a (ls1 := [(1, vI 0), (0, Value.ref (ad 161))]) dX7_digest_48 rfl (by decide) rfl ?_
    refine a_sub (ls1 := [(0, Value.ref (ad 161)), (1, vI 0)]) [1, 0] rfl ?_
    refine g_wl1s (fun x7 => [(0, Value.ref (ad 161)), (1, vI x7)]) h ?_
    clear h
    intro x7 s8 ag49 hag49 h
    refine a_iload_n (pc := 49) a 1 dX7_digest_49 rfl rfl ?_
    refine a_iconst (pc := 50) a dX7_digest_50 ?_
    refine a_icmp_ge (pc := 51) a h.1 ⟨by decide, by decide⟩ dX7_digest_51 (tgt := 73) (by decide) (fun hq => ?_) (fun hq => ?_)
    · replace h := h.2.1 hq
      clear hq
      refine a_iconst (pc := 73) a dX7_digest_73 ?_
      refine a_istore_n (pc := 74) a (ls1 := [(1, vI 0), (0, Value.ref (ad 161))]) dX7_digest_74 rfl (by decide) rfl ?_
      refine a_sub (ls1 := [(0, Value.ref (ad 161)), (1, vI 0)]) [1, 0] rfl ?_
      refine g_wl1s (fun x9 => [(0, Value.ref (ad 161)), (1, vI x9)]) h ?_
      clear h
      intro x9 s10 ag75 hag75 h
      refine a_iload_n (pc := 75) a 1 dX7_digest_75 rfl rfl ?_
      refine a_bipush (pc := 76) a dX7_digest_76 (by decide) ?_
      refine a_icmp_ge (pc := 78) a h.1 ⟨by decide, by decide⟩ dX7_digest_78 (tgt := 103) (by decide) (fun hq => ?_) (fun hq => ?_)
      · replace h := h.2.1 hq
        clear hq
        refine a_aload_n (pc := 103) a 0 dX7_digest_103 rfl rfl ?_
        refine a_cvv (pc := 104) a (As := []) (rest := []) tb vc7 (fun sz => c_X7_mixLegend hinj hl0  h sz) (cwV 0 hts (gl_V (GL_39 _ (by decide +kernel)) (GL_39 _ (by decide +kernel)) (GL_39 _ (by decide +kernel)) (GL_1 _ (by decide +kernel)) (GL_39 _ (by decide +kernel))) rfl rfl rfl (by decide +kernel) ⟨Nat.le_of_ble_eq_true rfl, Nat.le_of_ble_eq_true rfl⟩) rfl rfl (Nat.le_of_ble_eq_true rfl) ⟨Nat.le_of_ble_eq_true rfl, Nat.le_of_ble_eq_true rfl⟩ dX7_digest_104 ?_
        clear h
        intro s11 h
        refine a_aload_n (pc := 107) a 0 dX7_digest_107 rfl rfl ?_
        refine a_aload_n (pc := 108) a 0 dX7_digest_108 rfl rfl ?_
        refine a_getI (pc := 109) a 4 4 rfl tb vc7 w2 w6 (by decide) (by decide) rfl dX7_digest_109 ?_
        refine a_cvv (pc := 112) a (As := [vI (s11 161 4)]) (rest := []) tb vc7 (fun sz => c_X7_mix hinj hl0  h sz) (cwV 1 hts (gl_V (GL_39 _ (by decide +kernel)) (GL_39 _ (by decide +kernel)) (GL_39 _ (by decide +kernel)) (GL_1 _ (by decide +kernel)) (GL_39 _ (by decide +kernel))) rfl rfl rfl (by decide +kernel) ⟨Nat.le_of_ble_eq_true rfl, Nat.le_of_ble_eq_true rfl⟩) rfl rfl (Nat.le_of_ble_eq_true rfl) ⟨Nat.le_of_ble_eq_true rfl, Nat.le_of_ble_eq_true rfl⟩ dX7_digest_112 ?_
        clear h
        intro s12 h
        refine a_aload_n (pc := 115) a 0 dX7_digest_115 rfl rfl ?_
        refine a_getJ (pc := 116) a 28 28 rfl tb vc7 w2 w4 (by decide) (by decide) rfl dX7_digest_116 ?_
        exact e_j (pc := 119) a hr dX7_digest_119 h
      · replace h := h.2.2 hq
        clear hq
        refine a_aload_n (pc := 81) a 0 dX7_digest_81 rfl rfl ?_
        refine a_aload_n (pc := 82) a 0 dX7_digest_82 rfl rfl ?_
        refine a_iload_n (pc := 83) a 1 dX7_digest_83 rfl rfl ?_
        refine a_bipush (pc := 84) a dX7_digest_84 (by decide) ?_
        refine a_idiv (pc := 86) a dX7_digest_86 h.1 (by decide) ?_
        replace h := h.2
        refine a_iload_n (pc := 87) a 1 dX7_digest_87 rfl rfl ?_
        refine a_bipush (pc := 88) a dX7_digest_88 (by decide) ?_
        refine a_irem (pc := 90) a dX7_digest_90 h.1 (by decide) ?_
        replace h := h.2
        refine a_cvi (pc := 91) a (As := [vI (x9 / 10), vI (x9 % 10)]) (rest := [Value.ref (ad 161)]) tb vc7 (fun sz => c_X7_kindOf hinj hl0  h sz) (cwV 2 hts (gl_V (GL_28 _ (by decide +kernel)) (GL_28 _ (by decide +kernel)) (GL_28 _ (by decide +kernel)) (GL_1 _ (by decide +kernel)) (GL_28 _ (by decide +kernel))) rfl rfl rfl (by decide +kernel) ⟨Nat.le_of_ble_eq_true rfl, Nat.le_of_ble_eq_true rfl⟩) rfl rfl (Nat.le_of_ble_eq_true rfl) ⟨Nat.le_of_ble_eq_true rfl, Nat.le_of_ble_eq_true rfl⟩ dX7_digest_91 ?_
        rintro x13 s9 ⟨hs9, h9⟩
        subst s9
        replace h := h9
        clear h9
        refine a_cvv (pc := 94) a (As := [vI x13]) (rest := []) tb vc7 (fun sz => c_X7_mix hinj hl0  h sz) (cwV 1 hts (gl_V (GL_39 _ (by decide +kernel)) (GL_39 _ (by decide +kernel)) (GL_39 _ (by decide +kernel)) (GL_1 _ (by decide +kernel)) (GL_39 _ (by decide +kernel))) rfl rfl rfl (by decide +kernel) ⟨Nat.le_of_ble_eq_true rfl, Nat.le_of_ble_eq_true rfl⟩) rfl rfl (Nat.le_of_ble_eq_true rfl) ⟨Nat.le_of_ble_eq_true rfl, Nat.le_of_ble_eq_true rfl⟩ dX7_digest_94 ?_
        clear h
        intro s14 h
        refine a_iinc (pc := 97) a (ls1 := [(1, vI (x9 + 1)), (0, Value.ref (ad 161))]) 1 dX7_digest_97 rfl (by decide) rfl ?_
        refine a_goto (pc := 100) a dX7_digest_100 (tgt := 75) (by decide) ?_
        refine a_sub (ls1 := [(0, Value.ref (ad 161)), (1, vI (x9 + 1))]) [1, 0] rfl ?_
        exact hag75 (x9 + 1) s14 h
    · replace h := h.2.2 hq
      clear hq
      refine a_aload_n (pc := 54) a 0 dX7_digest_54 rfl rfl ?_
      refine a_aload_n (pc := 55) a 0 dX7_digest_55 rfl rfl ?_
      refine a_getR (pc := 56) a 0 0 rfl tb vc7 w2 w7 (by decide) (by decide) 1 (q := 162) rfl rfl dX7_digest_56 ?_
      refine a_bipush (pc := 59) a dX7_digest_59 (by decide) ?_
      refine a_iload_n (pc := 61) a 1 dX7_digest_61 rfl rfl ?_
      refine a_iadd (pc := 62) a dX7_digest_62 ?_
      refine a_iald (pc := 63) a w8 (by decide) h.1 dX7_digest_63 ?_
      replace h := h.2
      refine a_cvv (pc := 64) a (As := [vI (s8 162 (10 + x7))]) (rest := []) tb vc7 (fun sz => c_X7_mix hinj hl0  h sz) (cwV 1 hts (gl_V (GL_39 _ (by decide +kernel)) (GL_39 _ (by decide +kernel)) (GL_39 _ (by decide +kernel)) (GL_1 _ (by decide +kernel)) (GL_39 _ (by decide +kernel))) rfl rfl rfl (by decide +kernel) ⟨Nat.le_of_ble_eq_true rfl, Nat.le_of_ble_eq_true rfl⟩) rfl rfl (Nat.le_of_ble_eq_true rfl) ⟨Nat.le_of_ble_eq_true rfl, Nat.le_of_ble_eq_true rfl⟩ dX7_digest_64 ?_
      clear h
      intro s15 h
      refine a_iinc (pc := 67) a (ls1 := [(1, vI (x7 + 1)), (0, Value.ref (ad 161))]) 1 dX7_digest_67 rfl (by decide) rfl ?_
      refine a_goto (pc := 70) a dX7_digest_70 (tgt := 49) (by decide) ?_
      refine a_sub (ls1 := [(0, Value.ref (ad 161)), (1, vI (x7 + 1))]) [1, 0] rfl ?_
      exact hag49 (x7 + 1) s15 h
  · replace h := h.2.2 hq
    clear hq
    refine a_aload_n (pc := 32) a 0 dX7_digest_32 rfl rfl ?_
    refine a_aload_n (pc := 33) a 0 dX7_digest_33 rfl rfl ?_
    refine a_iload_n (pc := 34) a 1 dX7_digest_34 rfl rfl ?_
    refine a_cvi (pc := 35) a (As := [vI x5]) (rest := [Value.ref (ad 161)]) tb vc7 (fun sz => c_X7_valueOf hinj hl0  h sz) (cwV 1 hts (gl_V (GL_25 _ (by decide +kernel)) (GL_25 _ (by decide +kernel)) (GL_25 _ (by decide +kernel)) (GL_1 _ (by decide +kernel)) (GL_25 _ (by decide +kernel))) rfl rfl rfl (by decide +kernel) ⟨Nat.le_of_ble_eq_true rfl, Nat.le_of_ble_eq_true rfl⟩) rfl rfl (Nat.le_of_ble_eq_true rfl) ⟨Nat.le_of_ble_eq_true rfl, Nat.le_of_ble_eq_true rfl⟩ dX7_digest_35 ?_
    rintro x16 s9 ⟨hs9, h9⟩
    subst s9
    replace h := h9
    clear h9
    refine a_cvv (pc := 38) a (As := [vI x16]) (rest := []) tb vc7 (fun sz => c_X7_mix hinj hl0  h sz) (cwV 1 hts (gl_V (GL_39 _ (by decide +kernel)) (GL_39 _ (by decide +kernel)) (GL_39 _ (by decide +kernel)) (GL_1 _ (by decide +kernel)) (GL_39 _ (by decide +kernel))) rfl rfl rfl (by decide +kernel) ⟨Nat.le_of_ble_eq_true rfl, Nat.le_of_ble_eq_true rfl⟩) rfl rfl (Nat.le_of_ble_eq_true rfl) ⟨Nat.le_of_ble_eq_true rfl, Nat.le_of_ble_eq_true rfl⟩ dX7_digest_38 ?_
    clear h
    intro s17 h
    refine a_iinc (pc := 41) a (ls1 := [(1, vI (x5 + 1)), (0, Value.ref (ad 161))]) 1 dX7_digest_41 rfl (by decide) rfl ?_
    refine a_goto (pc := 44) a dX7_digest_44 (tgt := 26) (by decide) ?_
    refine a_sub (ls1 := [(0, Value.ref (ad 161)), (1, vI (x5 + 1))]) [1, 0] rfl ?_
    exact hag26 (x5 + 1) s17 h
