set_option maxRecDepth 100000 in
set_option maxHeartbeats 4000000 in
theorem c_L_addSign {l : Launch} {D : va_G} {X : XI} {ad : Nat → Nat} (hinj : adI ad) (hl0 : l.stackTraces = false) {p2 : Int} {p3 : Int} {p4 : Int} {p5 : Int} {p6 : Int}  {σ : St} {K : Int → St → Prop} (h : f_L_addSign p2 p3 p4 p5 p6 σ K) (sz : Nat) : Met l yL_addSign (WW (.codeWith yL_addSign cL_addSign 8 (some .int) [(0, 16, 19, 13), (0, 16, 23, 15), (0, 16, 27, 17)])) { frames := 8, cells := 6, slots := 36, locals := 136 } (va_Pc [Value.ref (ad 0), vI p2, vI p3, vI p4, vI p5, vI p6, Value.ref (ad 176)] (WD D X ad σ sz)) (QI D X ad sz K) 6 36 (AA ad sz) := by
  refine aw_start (cc := cL_addSign) (maxL := 8) (ret := (some .int)) (own := RL) [Value.ref (ad 0), vI p2, vI p3, vI p4, vI p5, vI p6, Value.ref (ad 176)] (by decide) rfl rfl (Nat.le_of_ble_eq_true rfl) hinj hl0 ?_
  intro p e s m below meth c a hr htab hsz
  subst hsz
  have hts := a.1.2.2.2.2
  have w1 : tyc 0 (10, 0) := ⟨by decide, rfl⟩
  have w2 : tyc 176 (3, 1) := ⟨by decide, rfl⟩
  have w3 := hts (Cond.classLink RL 13 "java/lang/IndexOutOfBoundsException") (List.mem_cons_of_mem _ (GL_5 _ (by decide +kernel)))
  have w4 := hts (Cond.classLink RL 15 "java/lang/IllegalArgumentException") (List.mem_cons_of_mem _ (GL_5 _ (by decide +kernel)))
  have w5 := hts (Cond.classLink RL 17 "java/lang/IllegalStateException") (List.mem_cons_of_mem _ (GL_6 _ (by decide +kernel)))
  unfold f_L_addSign at h
  refine a_sub (ls1 := [(0, Value.ref (ad 0)), (1, vI p2), (2, vI p3), (3, vI p4), (4, vI p5), (5, vI p6), (6, Value.ref (ad 176))]) [0, 1, 2, 3, 4, 5, 6] rfl ?_
  refine a_aload (pc := 0) a 6 dL_addSign_0 rfl ?_
  refine a_iconst (pc := 2) a dL_addSign_2 ?_
  refine a_aload_n (pc := 3) a 0 dL_addSign_3 rfl rfl ?_
  refine a_iload_n (pc := 4) a 1 dL_addSign_4 rfl rfl ?_
  refine a_iload_n (pc := 5) a 2 dL_addSign_5 rfl rfl ?_
  refine a_iload_n (pc := 6) a 3 dL_addSign_6 rfl rfl ?_
  refine a_iload (pc := 7) a 4 dL_addSign_7 rfl ?_
  refine a_iload (pc := 9) a 5 dL_addSign_9 rfl ?_
  refine a_xvi (pc := 11) a (As := [vI p2, vI p3, vI p4, vI p5, vI p6]) (rest := [vI 0, Value.ref (ad 176)]) w1 vc6 (fun sz => c_X6_addSign hinj hl0  h sz) (cwV 5 hts (gl_V (GL_6 _ (by decide +kernel)) (GL_6 _ (by decide +kernel)) (GL_6 _ (by decide +kernel)) (GL_1 _ (by decide +kernel)) (GL_6 _ (by decide +kernel))) rfl rfl rfl (by decide +kernel) ⟨Nat.le_of_ble_eq_true rfl, Nat.le_of_ble_eq_true rfl⟩) rfl rfl (Nat.le_of_ble_eq_true rfl) ⟨Nat.le_of_ble_eq_true rfl, Nat.le_of_ble_eq_true rfl⟩ dL_addSign_11 ?_ ?_
  · intro E cx ce q9 s9 H1 locs1 la hk hE hP hS hl h1 h2 h3
    clear h
    obtain ⟨k1, k2, k3, kc⟩ := hk
    rcases kc with kc | kc | kc
    · have h := k1 kc
      subst kc
      subst hE
      refine x_catch (pc := 11) a [] ⟨0, 16, 19, 13⟩ [⟨0, 16, 23, 15⟩, ⟨0, 16, 27, 17⟩] htab (fun z hz => nomatch hz) (by decide) (by decide) w3 (va_Nw.use rfl (a.2.2.2.1.2.2.2.2.1 _ (by decide))) h1 h2 h3 hP hS hl ?_
      refine a_astore (pc := 19) a (ls1 := [(7, Value.ref q9), (0, Value.ref (ad 0)), (1, vI p2), (2, vI p3), (3, vI p4), (4, vI p5), (5, vI p6), (6, Value.ref (ad 176))]) dL_addSign_19 (by decide) rfl ?_
      refine a_iconst (pc := 21) a dL_addSign_21 ?_
      refine a_wid 6 36 (by decide) (by decide) ?_
      exact e_i (pc := 22) a hr dL_addSign_22 h
    · have h := k2 kc
      subst kc
      subst hE
      refine x_catch (pc := 11) a [⟨0, 16, 19, 13⟩] ⟨0, 16, 23, 15⟩ [⟨0, 16, 27, 17⟩] htab (fun z hz => by rw [List.mem_singleton.mp hz]; exact Or.inr ⟨by decide, _, w3, a.2.2.2.1.2.2.2.2.2.2 _ (by decide) _ (by decide) (by decide)⟩) (by decide) (by decide) w4 (va_Nw.use rfl (a.2.2.2.1.2.2.2.2.1 _ (by decide))) h1 h2 h3 hP hS hl ?_
      refine a_astore (pc := 23) a (ls1 := [(7, Value.ref q9), (0, Value.ref (ad 0)), (1, vI p2), (2, vI p3), (3, vI p4), (4, vI p5), (5, vI p6), (6, Value.ref (ad 176))]) dL_addSign_23 (by decide) rfl ?_
      refine a_iconst (pc := 25) a dL_addSign_25 ?_
      refine a_wid 6 36 (by decide) (by decide) ?_
      exact e_i (pc := 26) a hr dL_addSign_26 h
    · have h := k3 kc
      subst kc
      subst hE
      refine x_catch (pc := 11) a [⟨0, 16, 19, 13⟩, ⟨0, 16, 23, 15⟩] ⟨0, 16, 27, 17⟩ [] htab (fun z hz => by rcases List.mem_cons.mp hz with rfl | hz; exact Or.inr ⟨by decide, _, w3, a.2.2.2.1.2.2.2.2.2.2 _ (by decide) _ (by decide) (by decide)⟩; rw [List.mem_singleton.mp hz]; exact Or.inr ⟨by decide, _, w4, a.2.2.2.1.2.2.2.2.2.2 _ (by decide) _ (by decide) (by decide)⟩) (by decide) (by decide) w5 (va_Nw.use rfl (a.2.2.2.1.2.2.2.2.1 _ (by decide))) h1 h2 h3 hP hS hl ?_
      refine a_astore (pc := 27) a (ls1 := [(7, Value.ref q9), (0, Value.ref (ad 0)), (1, vI p2), (2, vI p3), (3, vI p4), (4, vI p5), (5, vI p6), (6, Value.ref (ad 176))]) dL_addSign_27 (by decide) rfl ?_
      refine a_iconst (pc := 29) a dL_addSign_29 ?_
      refine a_wid 6 36 (by decide) (by decide) ?_
      exact e_i (pc := 30) a hr dL_addSign_30 h
  clear h
  intro x1 s2 h
  refine a_i2l (pc := 14) a h.1 dL_addSign_14 ?_
  replace h := h.2
  refine a_last (pc := 15) a w2 (by decide) (by decide) dL_addSign_15 ?_
  refine a_nmS (fun s3 hx => ?_)
  replace h := h s3 hx
  clear hx
  refine a_goto (pc := 16) a dL_addSign_16 (tgt := 31) (by decide) ?_
  refine a_iconst (pc := 31) a dL_addSign_31 ?_
  refine a_wid 6 36 (by decide) (by decide) ?_
  exact e_i (pc := 32) a hr dL_addSign_32 h

set_option maxRecDepth 100000 in
set_option maxHeartbeats 4000000 in
theorem c_L_removeSign {l : Launch} {D : va_G} {X : XI} {ad : Nat → Nat} (hinj : adI ad) (hl0 : l.stackTraces = false) {p2 : Int}  {σ : St} {K : Int → St → Prop} (h : f_L_removeSign p2 σ K) (sz : Nat) : Met l yL_removeSign (WW (.codeWith yL_removeSign cL_removeSign 4 (some .int) [(0, 9, 12, 13)])) { frames := 8, cells := 1, slots := 6, locals := 132 } (va_Pc [Value.ref (ad 0), vI p2, Value.ref (ad 176)] (WD D X ad σ sz)) (QI D X ad sz K) 1 6 (AA ad sz) := by
  refine aw_start (cc := cL_removeSign) (maxL := 4) (ret := (some .int)) (own := RL) [Value.ref (ad 0), vI p2, Value.ref (ad 176)] (by decide) rfl rfl (Nat.le_of_ble_eq_true rfl) hinj hl0 ?_
  intro p e s m below meth c a hr htab hsz
  subst hsz
  have hts := a.1.2.2.2.2
  have w1 : tyc 0 (10, 0) := ⟨by decide, rfl⟩
  have w2 : tyc 176 (3, 1) := ⟨by decide, rfl⟩
  have w3 := hts (Cond.classLink RL 13 "java/lang/IndexOutOfBoundsException") (List.mem_cons_of_mem _ (GL_5 _ (by decide +kernel)))
  unfold f_L_removeSign at h
  refine a_sub (ls1 := [(0, Value.ref (ad 0)), (1, vI p2), (2, Value.ref (ad 176))]) [0, 1, 2] rfl ?_
  refine a_aload_n (pc := 0) a 2 dL_removeSign_0 rfl rfl ?_
  refine a_iconst (pc := 1) a dL_removeSign_1 ?_
  refine a_aload_n (pc := 2) a 0 dL_removeSign_2 rfl rfl ?_
  refine a_iload_n (pc := 3) a 1 dL_removeSign_3 rfl rfl ?_
  refine a_xvi (pc := 4) a (As := [vI p2]) (rest := [vI 0, Value.ref (ad 176)]) w1 vc6 (fun sz => c_X6_removeSign hinj hl0  h sz) (cwV 1 hts (gl_V (GL_9 _ (by decide +kernel)) (GL_9 _ (by decide +kernel)) (GL_9 _ (by decide +kernel)) (GL_1 _ (by decide +kernel)) (GL_9 _ (by decide +kernel))) rfl rfl rfl (by decide +kernel) ⟨Nat.le_of_ble_eq_true rfl, Nat.le_of_ble_eq_true rfl⟩) rfl rfl (Nat.le_of_ble_eq_true rfl) ⟨Nat.le_of_ble_eq_true rfl, Nat.le_of_ble_eq_true rfl⟩ dL_removeSign_4 ?_ ?_
  · intro E cx ce q9 s9 H1 locs1 la hk hE hP hS hl h1 h2 h3
    clear h
    obtain ⟨k1, kc⟩ := hk
    have h := k1 kc
    subst kc
    subst hE
    refine x_catch (pc := 4) a [] ⟨0, 9, 12, 13⟩ [] htab (fun z hz => nomatch hz) (by decide) (by decide) w3 (va_Nw.use rfl (a.2.2.2.1.2.2.2.2.1 _ (by decide))) h1 h2 h3 hP hS hl ?_
    refine a_astore_n (pc := 12) a (ls1 := [(3, Value.ref q9), (0, Value.ref (ad 0)), (1, vI p2), (2, Value.ref (ad 176))]) dL_removeSign_12 rfl (by decide) rfl ?_
    refine a_iconst (pc := 13) a dL_removeSign_13 ?_
    refine a_wid 1 6 (by decide) (by decide) ?_
    exact e_i (pc := 14) a hr dL_removeSign_14 h
  clear h
  intro x1 s2 h
  refine a_i2l (pc := 7) a h.1 dL_removeSign_7 ?_
  replace h := h.2
  refine a_last (pc := 8) a w2 (by decide) (by decide) dL_removeSign_8 ?_
  refine a_nmS (fun s3 hx => ?_)
  replace h := h s3 hx
  clear hx
  refine a_goto (pc := 9) a dL_removeSign_9 (tgt := 15) (by decide) ?_
  refine a_iconst (pc := 15) a dL_removeSign_15 ?_
  refine a_wid 1 6 (by decide) (by decide) ?_
  exact e_i (pc := 16) a hr dL_removeSign_16 h

set_option maxRecDepth 100000 in
set_option maxHeartbeats 4000000 in
theorem c_L_moveSign {l : Launch} {D : va_G} {X : XI} {ad : Nat → Nat} (hinj : adI ad) (hl0 : l.stackTraces = false) {p2 : Int} {p3 : Int} {p4 : Int}  {σ : St} {K : Int → St → Prop} (h : f_L_moveSign p2 p3 p4 σ K) (sz : Nat) : Met l yL_moveSign (WW (.codeWith yL_moveSign cL_moveSign 6 (some .int) [(0, 12, 15, 13), (0, 12, 19, 15)])) { frames := 8, cells := 3, slots := 18, locals := 135 } (va_Pc [Value.ref (ad 0), vI p2, vI p3, vI p4, Value.ref (ad 176)] (WD D X ad σ sz)) (QI D X ad sz K) 3 18 (AA ad sz) := by
  refine aw_start (cc := cL_moveSign) (maxL := 6) (ret := (some .int)) (own := RL) [Value.ref (ad 0), vI p2, vI p3, vI p4, Value.ref (ad 176)] (by decide) rfl rfl (Nat.le_of_ble_eq_true rfl) hinj hl0 ?_
  intro p e s m below meth c a hr htab hsz
  subst hsz
  have hts := a.1.2.2.2.2
  have w1 : tyc 0 (10, 0) := ⟨by decide, rfl⟩
  have w2 : tyc 176 (3, 1) := ⟨by decide, rfl⟩
  have w3 := hts (Cond.classLink RL 13 "java/lang/IndexOutOfBoundsException") (List.mem_cons_of_mem _ (GL_5 _ (by decide +kernel)))
  have w4 := hts (Cond.classLink RL 15 "java/lang/IllegalArgumentException") (List.mem_cons_of_mem _ (GL_5 _ (by decide +kernel)))
  unfold f_L_moveSign at h
  refine a_sub (ls1 := [(0, Value.ref (ad 0)), (1, vI p2), (2, vI p3), (3, vI p4), (4, Value.ref (ad 176))]) [0, 1, 2, 3, 4] rfl ?_
  refine a_aload (pc := 0) a 4 dL_moveSign_0 rfl ?_
  refine a_iconst (pc := 2) a dL_moveSign_2 ?_
  refine a_aload_n (pc := 3) a 0 dL_moveSign_3 rfl rfl ?_
  refine a_iload_n (pc := 4) a 1 dL_moveSign_4 rfl rfl ?_
  refine a_iload_n (pc := 5) a 2 dL_moveSign_5 rfl rfl ?_
  refine a_iload_n (pc := 6) a 3 dL_moveSign_6 rfl rfl ?_
  refine a_xvi (pc := 7) a (As := [vI p2, vI p3, vI p4]) (rest := [vI 0, Value.ref (ad 176)]) w1 vc6 (fun sz => c_X6_moveSign hinj hl0  h sz) (cwV 3 hts (gl_V (GL_10 _ (by decide +kernel)) (GL_10 _ (by decide +kernel)) (GL_10 _ (by decide +kernel)) (GL_1 _ (by decide +kernel)) (GL_10 _ (by decide +kernel))) rfl rfl rfl (by decide +kernel) ⟨Nat.le_of_ble_eq_true rfl, Nat.le_of_ble_eq_true rfl⟩) rfl rfl (Nat.le_of_ble_eq_true rfl) ⟨Nat.le_of_ble_eq_true rfl, Nat.le_of_ble_eq_true rfl⟩ dL_moveSign_7 ?_ ?_
  · intro E cx ce q9 s9 H1 locs1 la hk hE hP hS hl h1 h2 h3
    clear h
    obtain ⟨k1, k2, kc⟩ := hk
    rcases kc with kc | kc
    · have h := k1 kc
      subst kc
      subst hE
      refine x_catch (pc := 7) a [] ⟨0, 12, 15, 13⟩ [⟨0, 12, 19, 15⟩] htab (fun z hz => nomatch hz) (by decide) (by decide) w3 (va_Nw.use rfl (a.2.2.2.1.2.2.2.2.1 _ (by decide))) h1 h2 h3 hP hS hl ?_
      refine a_astore (pc := 15) a (ls1 := [(5, Value.ref q9), (0, Value.ref (ad 0)), (1, vI p2), (2, vI p3), (3, vI p4), (4, Value.ref (ad 176))]) dL_moveSign_15 (by decide) rfl ?_
      refine a_iconst (pc := 17) a dL_moveSign_17 ?_
      refine a_wid 3 18 (by decide) (by decide) ?_
      exact e_i (pc := 18) a hr dL_moveSign_18 h
    · have h := k2 kc
      subst kc
      subst hE
      refine x_catch (pc := 7) a [⟨0, 12, 15, 13⟩] ⟨0, 12, 19, 15⟩ [] htab (fun z hz => by rw [List.mem_singleton.mp hz]; exact Or.inr ⟨by decide, _, w3, a.2.2.2.1.2.2.2.2.2.2 _ (by decide) _ (by decide) (by decide)⟩) (by decide) (by decide) w4 (va_Nw.use rfl (a.2.2.2.1.2.2.2.2.1 _ (by decide))) h1 h2 h3 hP hS hl ?_
      refine a_astore (pc := 19) a (ls1 := [(5, Value.ref q9), (0, Value.ref (ad 0)), (1, vI p2), (2, vI p3), (3, vI p4), (4, Value.ref (ad 176))]) dL_moveSign_19 (by decide) rfl ?_
      refine a_iconst (pc := 21) a dL_moveSign_21 ?_
      refine a_wid 3 18 (by decide) (by decide) ?_
      exact e_i (pc := 22) a hr dL_moveSign_22 h
  clear h
  intro x1 s2 h
  refine a_i2l (pc := 10) a h.1 dL_moveSign_10 ?_
  replace h := h.2
  refine a_last (pc := 11) a w2 (by decide) (by decide) dL_moveSign_11 ?_
  refine a_nmS (fun s3 hx => ?_)
  replace h := h s3 hx
  clear hx
  refine a_goto (pc := 12) a dL_moveSign_12 (tgt := 23) (by decide) ?_
  refine a_iconst (pc := 23) a dL_moveSign_23 ?_
  refine a_wid 3 18 (by decide) (by decide) ?_
  exact e_i (pc := 24) a hr dL_moveSign_24 h

set_option maxRecDepth 100000 in
set_option maxHeartbeats 4000000 in
theorem c_L_setWindow {l : Launch} {D : va_G} {X : XI} {ad : Nat → Nat} (hinj : adI ad) (hl0 : l.stackTraces = false) {p2 : Int} {p3 : Int} {p4 : Int} {p5 : Int} {p6 : Int}  {σ : St} {K : Int → St → Prop} (h : f_L_setWindow p2 p3 p4 p5 p6 σ K) (sz : Nat) : Met l yL_setWindow (WW (.codeWith yL_setWindow cL_setWindow 8 (some .int) [(0, 16, 19, 15)])) { frames := 8, cells := 5, slots := 30, locals := 136 } (va_Pc [Value.ref (ad 0), vI p2, vI p3, vI p4, vI p5, vI p6, Value.ref (ad 176)] (WD D X ad σ sz)) (QI D X ad sz K) 5 30 (AA ad sz) := by
  refine aw_start (cc := cL_setWindow) (maxL := 8) (ret := (some .int)) (own := RL) [Value.ref (ad 0), vI p2, vI p3, vI p4, vI p5, vI p6, Value.ref (ad 176)] (by decide) rfl rfl (Nat.le_of_ble_eq_true rfl) hinj hl0 ?_
  intro p e s m below meth c a hr htab hsz
  subst hsz
  have hts := a.1.2.2.2.2
  have w1 : tyc 0 (10, 0) := ⟨by decide, rfl⟩
  have w2 : tyc 176 (3, 1) := ⟨by decide, rfl⟩
  have w3 := hts (Cond.classLink RL 15 "java/lang/IllegalArgumentException") (List.mem_cons_of_mem _ (GL_5 _ (by decide +kernel)))
  unfold f_L_setWindow at h
  refine a_sub (ls1 := [(0, Value.ref (ad 0)), (1, vI p2), (2, vI p3), (3, vI p4), (4, vI p5), (5, vI p6), (6, Value.ref (ad 176))]) [0, 1, 2, 3, 4, 5, 6] rfl ?_
  refine a_aload (pc := 0) a 6 dL_setWindow_0 rfl ?_
  refine a_iconst (pc := 2) a dL_setWindow_2 ?_
  refine a_aload_n (pc := 3) a 0 dL_setWindow_3 rfl rfl ?_
  refine a_iload_n (pc := 4) a 1 dL_setWindow_4 rfl rfl ?_
  refine a_iload_n (pc := 5) a 2 dL_setWindow_5 rfl rfl ?_
  refine a_iload_n (pc := 6) a 3 dL_setWindow_6 rfl rfl ?_
  refine a_iload (pc := 7) a 4 dL_setWindow_7 rfl ?_
  refine a_iload (pc := 9) a 5 dL_setWindow_9 rfl ?_
  refine a_xvi (pc := 11) a (As := [vI p2, vI p3, vI p4, vI p5, vI p6]) (rest := [vI 0, Value.ref (ad 176)]) w1 vc6 (fun sz => c_X6_setWindow hinj hl0  h sz) (cwV 5 hts (gl_V (GL_11 _ (by decide +kernel)) (GL_11 _ (by decide +kernel)) (GL_11 _ (by decide +kernel)) (GL_1 _ (by decide +kernel)) (GL_11 _ (by decide +kernel))) rfl rfl rfl (by decide +kernel) ⟨Nat.le_of_ble_eq_true rfl, Nat.le_of_ble_eq_true rfl⟩) rfl rfl (Nat.le_of_ble_eq_true rfl) ⟨Nat.le_of_ble_eq_true rfl, Nat.le_of_ble_eq_true rfl⟩ dL_setWindow_11 ?_ ?_
  · intro E cx ce q9 s9 H1 locs1 la hk hE hP hS hl h1 h2 h3
    clear h
    obtain ⟨k2, kc⟩ := hk
    have h := k2 kc
    subst kc
    subst hE
    refine x_catch (pc := 11) a [] ⟨0, 16, 19, 15⟩ [] htab (fun z hz => nomatch hz) (by decide) (by decide) w3 (va_Nw.use rfl (a.2.2.2.1.2.2.2.2.1 _ (by decide))) h1 h2 h3 hP hS hl ?_
    refine a_astore (pc := 19) a (ls1 := [(7, Value.ref q9), (0, Value.ref (ad 0)), (1, vI p2), (2, vI p3), (3, vI p4), (4, vI p5), (5, vI p6), (6, Value.ref (ad 176))]) dL_setWindow_19 (by decide) rfl ?_
    refine a_iconst (pc := 21) a dL_setWindow_21 ?_
    refine a_wid 5 30 (by decide) (by decide) ?_
    exact e_i (pc := 22) a hr dL_setWindow_22 h
  clear h
  intro x1 s2 h
  refine a_i2l (pc := 14) a h.1 dL_setWindow_14 ?_
  replace h := h.2
  refine a_last (pc := 15) a w2 (by decide) (by decide) dL_setWindow_15 ?_
  refine a_nmS (fun s3 hx => ?_)
  replace h := h s3 hx
  clear hx
  refine a_goto (pc := 16) a dL_setWindow_16 (tgt := 23) (by decide) ?_
  refine a_iconst (pc := 23) a dL_setWindow_23 ?_
  refine a_wid 5 30 (by decide) (by decide) ?_
  exact e_i (pc := 24) a hr dL_setWindow_24 h

set_option maxRecDepth 100000 in
set_option maxHeartbeats 4000000 in
theorem c_L_set {l : Launch} {D : va_G} {X : XI} {ad : Nat → Nat} (hinj : adI ad) (hl0 : l.stackTraces = false) {p2 : Int} {p3 : Int}  {σ : St} {K : Int → St → Prop} (h : f_L_set p2 p3 σ K) (sz : Nat) : Met l yL_set (WW (.codeWith yL_set cL_set 5 (some .int) [(0, 10, 13, 15)])) { frames := 8, cells := 2, slots := 12, locals := 134 } (va_Pc [Value.ref (ad 0), vI p2, vI p3, Value.ref (ad 176)] (WD D X ad σ sz)) (QI D X ad sz K) 2 12 (AA ad sz) := by
  refine aw_start (cc := cL_set) (maxL := 5) (ret := (some .int)) (own := RL) [Value.ref (ad 0), vI p2, vI p3, Value.ref (ad 176)] (by decide) rfl rfl (Nat.le_of_ble_eq_true rfl) hinj hl0 ?_
  intro p e s m below meth c a hr htab hsz
  subst hsz
  have hts := a.1.2.2.2.2
  have w1 : tyc 0 (10, 0) := ⟨by decide, rfl⟩
  have w2 : tyc 176 (3, 1) := ⟨by decide, rfl⟩
  have w3 := hts (Cond.classLink RL 15 "java/lang/IllegalArgumentException") (List.mem_cons_of_mem _ (GL_5 _ (by decide +kernel)))
  unfold f_L_set at h
  refine a_sub (ls1 := [(0, Value.ref (ad 0)), (1, vI p2), (2, vI p3), (3, Value.ref (ad 176))]) [0, 1, 2, 3] rfl ?_
  refine a_aload_n (pc := 0) a 3 dL_set_0 rfl rfl ?_
  refine a_iconst (pc := 1) a dL_set_1 ?_
  refine a_aload_n (pc := 2) a 0 dL_set_2 rfl rfl ?_
  refine a_iload_n (pc := 3) a 1 dL_set_3 rfl rfl ?_
  refine a_iload_n (pc := 4) a 2 dL_set_4 rfl rfl ?_
  refine a_xvi (pc := 5) a (As := [vI p2, vI p3]) (rest := [vI 0, Value.ref (ad 176)]) w1 vc6 (fun sz => c_X6_set hinj hl0  h sz) (cwV 2 hts (gl_V (GL_12 _ (by decide +kernel)) (GL_12 _ (by decide +kernel)) (GL_12 _ (by decide +kernel)) (GL_1 _ (by decide +kernel)) (GL_12 _ (by decide +kernel))) rfl rfl rfl (by decide +kernel) ⟨Nat.le_of_ble_eq_true rfl, Nat.le_of_ble_eq_true rfl⟩) rfl rfl (Nat.le_of_ble_eq_true rfl) ⟨Nat.le_of_ble_eq_true rfl, Nat.le_of_ble_eq_true rfl⟩ dL_set_5 ?_ ?_
  · intro E cx ce q9 s9 H1 locs1 la hk hE hP hS hl h1 h2 h3
    clear h
    obtain ⟨k2, kc⟩ := hk
    have h := k2 kc
    subst kc
    subst hE
    refine x_catch (pc := 5) a [] ⟨0, 10, 13, 15⟩ [] htab (fun z hz => nomatch hz) (by decide) (by decide) w3 (va_Nw.use rfl (a.2.2.2.1.2.2.2.2.1 _ (by decide))) h1 h2 h3 hP hS hl ?_
    refine a_astore (pc := 13) a (ls1 := [(4, Value.ref q9), (0, Value.ref (ad 0)), (1, vI p2), (2, vI p3), (3, Value.ref (ad 176))]) dL_set_13 (by decide) rfl ?_
    refine a_iconst (pc := 15) a dL_set_15 ?_
    refine a_wid 2 12 (by decide) (by decide) ?_
    exact e_i (pc := 16) a hr dL_set_16 h
  clear h
  intro x1 s2 h
  refine a_i2l (pc := 8) a h.1 dL_set_8 ?_
  replace h := h.2
  refine a_last (pc := 9) a w2 (by decide) (by decide) dL_set_9 ?_
  refine a_nmS (fun s3 hx => ?_)
  replace h := h s3 hx
  clear hx
  refine a_goto (pc := 10) a dL_set_10 (tgt := 17) (by decide) ?_
  refine a_iconst (pc := 17) a dL_set_17 ?_
  refine a_wid 2 12 (by decide) (by decide) ?_
  exact e_i (pc := 18) a hr dL_set_18 h

set_option maxRecDepth 100000 in
set_option maxHeartbeats 4000000 in
theorem c_L_setKind {l : Launch} {D : va_G} {X : XI} {ad : Nat → Nat} (hinj : adI ad) (hl0 : l.stackTraces = false) {p2 : Int} {p3 : Int} {p4 : Int}  {σ : St} {K : Int → St → Prop} (h : f_L_setKind p2 p3 p4 σ K) (sz : Nat) : Met l yL_setKind (WW (.codeWith yL_setKind cL_setKind 6 (some .int) [(0, 12, 15, 13), (0, 12, 19, 15)])) { frames := 8, cells := 3, slots := 18, locals := 135 } (va_Pc [Value.ref (ad 0), vI p2, vI p3, vI p4, Value.ref (ad 176)] (WD D X ad σ sz)) (QI D X ad sz K) 3 18 (AA ad sz) := by
  refine aw_start (cc := cL_setKind) (maxL := 6) (ret := (some .int)) (own := RL) [Value.ref (ad 0), vI p2, vI p3, vI p4, Value.ref (ad 176)] (by decide) rfl rfl (Nat.le_of_ble_eq_true rfl) hinj hl0 ?_
  intro p e s m below meth c a hr htab hsz
  subst hsz
  have hts := a.1.2.2.2.2
  have w1 : tyc 0 (10, 0) := ⟨by decide, rfl⟩
  have w2 : tyc 176 (3, 1) := ⟨by decide, rfl⟩
  have w3 := hts (Cond.classLink RL 13 "java/lang/IndexOutOfBoundsException") (List.mem_cons_of_mem _ (GL_5 _ (by decide +kernel)))
  have w4 := hts (Cond.classLink RL 15 "java/lang/IllegalArgumentException") (List.mem_cons_of_mem _ (GL_5 _ (by decide +kernel)))
  unfold f_L_setKind at h
  refine a_sub (ls1 := [(0, Value.ref (ad 0)), (1, vI p2), (2, vI p3), (3, vI p4), (4, Value.ref (ad 176))]) [0, 1, 2, 3, 4] rfl ?_
  refine a_aload (pc := 0) a 4 dL_setKind_0 rfl ?_
  refine a_iconst (pc := 2) a dL_setKind_2 ?_
  refine a_aload_n (pc := 3) a 0 dL_setKind_3 rfl rfl ?_
  refine a_iload_n (pc := 4) a 1 dL_setKind_4 rfl rfl ?_
  refine a_iload_n (pc := 5) a 2 dL_setKind_5 rfl rfl ?_
  refine a_iload_n (pc := 6) a 3 dL_setKind_6 rfl rfl ?_
  refine a_xvi (pc := 7) a (As := [vI p2, vI p3, vI p4]) (rest := [vI 0, Value.ref (ad 176)]) w1 vc6 (fun sz => c_X6_setKind hinj hl0  h sz) (cwV 3 hts (gl_V (GL_13 _ (by decide +kernel)) (GL_13 _ (by decide +kernel)) (GL_13 _ (by decide +kernel)) (GL_1 _ (by decide +kernel)) (GL_13 _ (by decide +kernel))) rfl rfl rfl (by decide +kernel) ⟨Nat.le_of_ble_eq_true rfl, Nat.le_of_ble_eq_true rfl⟩) rfl rfl (Nat.le_of_ble_eq_true rfl) ⟨Nat.le_of_ble_eq_true rfl, Nat.le_of_ble_eq_true rfl⟩ dL_setKind_7 ?_ ?_
  · intro E cx ce q9 s9 H1 locs1 la hk hE hP hS hl h1 h2 h3
    clear h
    obtain ⟨k1, k2, kc⟩ := hk
    rcases kc with kc | kc
    · have h := k1 kc
      subst kc
      subst hE
      refine x_catch (pc := 7) a [] ⟨0, 12, 15, 13⟩ [⟨0, 12, 19, 15⟩] htab (fun z hz => nomatch hz) (by decide) (by decide) w3 (va_Nw.use rfl (a.2.2.2.1.2.2.2.2.1 _ (by decide))) h1 h2 h3 hP hS hl ?_
      refine a_astore (pc := 15) a (ls1 := [(5, Value.ref q9), (0, Value.ref (ad 0)), (1, vI p2), (2, vI p3), (3, vI p4), (4, Value.ref (ad 176))]) dL_setKind_15 (by decide) rfl ?_
      refine a_iconst (pc := 17) a dL_setKind_17 ?_
      refine a_wid 3 18 (by decide) (by decide) ?_
      exact e_i (pc := 18) a hr dL_setKind_18 h
    · have h := k2 kc
      subst kc
      subst hE
      refine x_catch (pc := 7) a [⟨0, 12, 15, 13⟩] ⟨0, 12, 19, 15⟩ [] htab (fun z hz => by rw [List.mem_singleton.mp hz]; exact Or.inr ⟨by decide, _, w3, a.2.2.2.1.2.2.2.2.2.2 _ (by decide) _ (by decide) (by decide)⟩) (by decide) (by decide) w4 (va_Nw.use rfl (a.2.2.2.1.2.2.2.2.1 _ (by decide))) h1 h2 h3 hP hS hl ?_
      refine a_astore (pc := 19) a (ls1 := [(5, Value.ref q9), (0, Value.ref (ad 0)), (1, vI p2), (2, vI p3), (3, vI p4), (4, Value.ref (ad 176))]) dL_setKind_19 (by decide) rfl ?_
      refine a_iconst (pc := 21) a dL_setKind_21 ?_
      refine a_wid 3 18 (by decide) (by decide) ?_
      exact e_i (pc := 22) a hr dL_setKind_22 h
  clear h
  intro x1 s2 h
  refine a_i2l (pc := 10) a h.1 dL_setKind_10 ?_
  replace h := h.2
  refine a_last (pc := 11) a w2 (by decide) (by decide) dL_setKind_11 ?_
  refine a_nmS (fun s3 hx => ?_)
  replace h := h s3 hx
  clear hx
  refine a_goto (pc := 12) a dL_setKind_12 (tgt := 23) (by decide) ?_
  refine a_iconst (pc := 23) a dL_setKind_23 ?_
  refine a_wid 3 18 (by decide) (by decide) ?_
  exact e_i (pc := 24) a hr dL_setKind_24 h

set_option maxRecDepth 100000 in
set_option maxHeartbeats 4000000 in
theorem c_L_setWay {l : Launch} {D : va_G} {X : XI} {ad : Nat → Nat} (hinj : adI ad) (hl0 : l.stackTraces = false) {p2 : Int} {p3 : Int}  {σ : St} {K : Int → St → Prop} (h : f_L_setWay p2 p3 σ K) (sz : Nat) : Met l yL_setWay (WW (.codeWith yL_setWay cL_setWay 5 (some .int) [(0, 10, 13, 13), (0, 10, 17, 15)])) { frames := 8, cells := 1, slots := 6, locals := 134 } (va_Pc [Value.ref (ad 0), vI p2, vI p3, Value.ref (ad 176)] (WD D X ad σ sz)) (QI D X ad sz K) 1 6 (AA ad sz) := by
  refine aw_start (cc := cL_setWay) (maxL := 5) (ret := (some .int)) (own := RL) [Value.ref (ad 0), vI p2, vI p3, Value.ref (ad 176)] (by decide) rfl rfl (Nat.le_of_ble_eq_true rfl) hinj hl0 ?_
  intro p e s m below meth c a hr htab hsz
  subst hsz
  have hts := a.1.2.2.2.2
  have w1 : tyc 0 (10, 0) := ⟨by decide, rfl⟩
  have w2 : tyc 176 (3, 1) := ⟨by decide, rfl⟩
  have w3 := hts (Cond.classLink RL 13 "java/lang/IndexOutOfBoundsException") (List.mem_cons_of_mem _ (GL_5 _ (by decide +kernel)))
  have w4 := hts (Cond.classLink RL 15 "java/lang/IllegalArgumentException") (List.mem_cons_of_mem _ (GL_5 _ (by decide +kernel)))
  unfold f_L_setWay at h
  refine a_sub (ls1 := [(0, Value.ref (ad 0)), (1, vI p2), (2, vI p3), (3, Value.ref (ad 176))]) [0, 1, 2, 3] rfl ?_
  refine a_aload_n (pc := 0) a 3 dL_setWay_0 rfl rfl ?_
  refine a_iconst (pc := 1) a dL_setWay_1 ?_
  refine a_aload_n (pc := 2) a 0 dL_setWay_2 rfl rfl ?_
  refine a_iload_n (pc := 3) a 1 dL_setWay_3 rfl rfl ?_
  refine a_iload_n (pc := 4) a 2 dL_setWay_4 rfl rfl ?_
  refine a_xvi (pc := 5) a (As := [vI p2, vI p3]) (rest := [vI 0, Value.ref (ad 176)]) w1 vc6 (fun sz => c_X6_setWay hinj hl0  h sz) (cwV 2 hts (gl_V (GL_14 _ (by decide +kernel)) (GL_14 _ (by decide +kernel)) (GL_14 _ (by decide +kernel)) (GL_1 _ (by decide +kernel)) (GL_14 _ (by decide +kernel))) rfl rfl rfl (by decide +kernel) ⟨Nat.le_of_ble_eq_true rfl, Nat.le_of_ble_eq_true rfl⟩) rfl rfl (Nat.le_of_ble_eq_true rfl) ⟨Nat.le_of_ble_eq_true rfl, Nat.le_of_ble_eq_true rfl⟩ dL_setWay_5 ?_ ?_
  · intro E cx ce q9 s9 H1 locs1 la hk hE hP hS hl h1 h2 h3
    clear h
    obtain ⟨k1, k2, kc⟩ := hk
    rcases kc with kc | kc
    · have h := k1 kc
      subst kc
      subst hE
      refine x_catch (pc := 5) a [] ⟨0, 10, 13, 13⟩ [⟨0, 10, 17, 15⟩] htab (fun z hz => nomatch hz) (by decide) (by decide) w3 (va_Nw.use rfl (a.2.2.2.1.2.2.2.2.1 _ (by decide))) h1 h2 h3 hP hS hl ?_
      refine a_astore (pc := 13) a (ls1 := [(4, Value.ref q9), (0, Value.ref (ad 0)), (1, vI p2), (2, vI p3), (3, Value.ref (ad 176))]) dL_setWay_13 (by decide) rfl ?_
      refine a_iconst (pc := 15) a dL_setWay_15 ?_
      refine a_wid 1 6 (by decide) (by decide) ?_
      exact e_i (pc := 16) a hr dL_setWay_16 h
    · have h := k2 kc
      subst kc
      subst hE
      refine x_catch (pc := 5) a [⟨0, 10, 13, 13⟩] ⟨0, 10, 17, 15⟩ [] htab (fun z hz => by rw [List.mem_singleton.mp hz]; exact Or.inr ⟨by decide, _, w3, a.2.2.2.1.2.2.2.2.2.2 _ (by decide) _ (by decide) (by decide)⟩) (by decide) (by decide) w4 (va_Nw.use rfl (a.2.2.2.1.2.2.2.2.1 _ (by decide))) h1 h2 h3 hP hS hl ?_
      refine a_astore (pc := 17) a (ls1 := [(4, Value.ref q9), (0, Value.ref (ad 0)), (1, vI p2), (2, vI p3), (3, Value.ref (ad 176))]) dL_setWay_17 (by decide) rfl ?_
      refine a_iconst (pc := 19) a dL_setWay_19 ?_
      refine a_wid 1 6 (by decide) (by decide) ?_
      exact e_i (pc := 20) a hr dL_setWay_20 h
  clear h
  intro x1 s2 h
  refine a_i2l (pc := 8) a h.1 dL_setWay_8 ?_
  replace h := h.2
  refine a_last (pc := 9) a w2 (by decide) (by decide) dL_setWay_9 ?_
  refine a_nmS (fun s3 hx => ?_)
  replace h := h s3 hx
  clear hx
  refine a_goto (pc := 10) a dL_setWay_10 (tgt := 21) (by decide) ?_
  refine a_iconst (pc := 21) a dL_setWay_21 ?_
  refine a_wid 1 6 (by decide) (by decide) ?_
  exact e_i (pc := 22) a hr dL_setWay_22 h

set_option maxRecDepth 100000 in
set_option maxHeartbeats 4000000 in
theorem c_L_limit {l : Launch} {D : va_G} {X : XI} {ad : Nat → Nat} (hinj : adI ad) (hl0 : l.stackTraces = false) {p2 : Int} {p3 : Int}  {σ : St} {K : Int → St → Prop} (h : f_L_limit p2 p3 σ K) (sz : Nat) : Met l yL_limit (WW (.codeWith yL_limit cL_limit 5 (some .int) [(0, 10, 13, 13), (0, 10, 17, 15), (0, 10, 21, 17)])) { frames := 8, cells := 2, slots := 12, locals := 133 } (va_Pc [Value.ref (ad 0), vI p2, vI p3, Value.ref (ad 176)] (WD D X ad σ sz)) (QI D X ad sz K) 2 12 (AA ad sz) := by
  refine aw_start (cc := cL_limit) (maxL := 5) (ret := (some .int)) (own := RL) [Value.ref (ad 0), vI p2, vI p3, Value.ref (ad 176)] (by decide) rfl rfl (Nat.le_of_ble_eq_true rfl) hinj hl0 ?_
  intro p e s m below meth c a hr htab hsz
  subst hsz
  have hts := a.1.2.2.2.2
  have w1 : tyc 0 (10, 0) := ⟨by decide, rfl⟩
  have w2 : tyc 176 (3, 1) := ⟨by decide, rfl⟩
  have w3 := hts (Cond.classLink RL 13 "java/lang/IndexOutOfBoundsException") (List.mem_cons_of_mem _ (GL_5 _ (by decide +kernel)))
  have w4 := hts (Cond.classLink RL 15 "java/lang/IllegalArgumentException") (List.mem_cons_of_mem _ (GL_5 _ (by decide +kernel)))
  have w5 := hts (Cond.classLink RL 17 "java/lang/IllegalStateException") (List.mem_cons_of_mem _ (GL_6 _ (by decide +kernel)))
  unfold f_L_limit at h
  refine a_sub (ls1 := [(0, Value.ref (ad 0)), (1, vI p2), (2, vI p3), (3, Value.ref (ad 176))]) [0, 1, 2, 3] rfl ?_
  refine a_aload_n (pc := 0) a 3 dL_limit_0 rfl rfl ?_
  refine a_iconst (pc := 1) a dL_limit_1 ?_
  refine a_aload_n (pc := 2) a 0 dL_limit_2 rfl rfl ?_
  refine a_iload_n (pc := 3) a 1 dL_limit_3 rfl rfl ?_
  refine a_iload_n (pc := 4) a 2 dL_limit_4 rfl rfl ?_
  refine a_xvi (pc := 5) a (As := [vI p2, vI p3]) (rest := [vI 0, Value.ref (ad 176)]) w1 vc6 (fun sz => c_X6_limit hinj hl0  h sz) (cwV 2 hts (gl_V (GL_14 _ (by decide +kernel)) (GL_14 _ (by decide +kernel)) (GL_14 _ (by decide +kernel)) (GL_1 _ (by decide +kernel)) (GL_14 _ (by decide +kernel))) rfl rfl rfl (by decide +kernel) ⟨Nat.le_of_ble_eq_true rfl, Nat.le_of_ble_eq_true rfl⟩) rfl rfl (Nat.le_of_ble_eq_true rfl) ⟨Nat.le_of_ble_eq_true rfl, Nat.le_of_ble_eq_true rfl⟩ dL_limit_5 ?_ ?_
  · intro E cx ce q9 s9 H1 locs1 la hk hE hP hS hl h1 h2 h3
    clear h
    obtain ⟨k1, k2, k3, kc⟩ := hk
    rcases kc with kc | kc | kc
    · have h := k1 kc
      subst kc
      subst hE
      refine x_catch (pc := 5) a [] ⟨0, 10, 13, 13⟩ [⟨0, 10, 17, 15⟩, ⟨0, 10, 21, 17⟩] htab (fun z hz => nomatch hz) (by decide) (by decide) w3 (va_Nw.use rfl (a.2.2.2.1.2.2.2.2.1 _ (by decide))) h1 h2 h3 hP hS hl ?_
      refine a_astore (pc := 13) a (ls1 := [(4, Value.ref q9), (0, Value.ref (ad 0)), (1, vI p2), (2, vI p3), (3, Value.ref (ad 176))]) dL_limit_13 (by decide) rfl ?_
      refine a_iconst (pc := 15) a dL_limit_15 ?_
      refine a_wid 2 12 (by decide) (by decide) ?_
      exact e_i (pc := 16) a hr dL_limit_16 h
    · have h := k2 kc
      subst kc
      subst hE
      refine x_catch (pc := 5) a [⟨0, 10, 13, 13⟩] ⟨0, 10, 17, 15⟩ [⟨0, 10, 21, 17⟩] htab (fun z hz => by rw [List.mem_singleton.mp hz]; exact Or.inr ⟨by decide, _, w3, a.2.2.2.1.2.2.2.2.2.2 _ (by decide) _ (by decide) (by decide)⟩) (by decide) (by decide) w4 (va_Nw.use rfl (a.2.2.2.1.2.2.2.2.1 _ (by decide))) h1 h2 h3 hP hS hl ?_
      refine a_astore (pc := 17) a (ls1 := [(4, Value.ref q9), (0, Value.ref (ad 0)), (1, vI p2), (2, vI p3), (3, Value.ref (ad 176))]) dL_limit_17 (by decide) rfl ?_
      refine a_iconst (pc := 19) a dL_limit_19 ?_
      refine a_wid 2 12 (by decide) (by decide) ?_
      exact e_i (pc := 20) a hr dL_limit_20 h
    · have h := k3 kc
      subst kc
      subst hE
      refine x_catch (pc := 5) a [⟨0, 10, 13, 13⟩, ⟨0, 10, 17, 15⟩] ⟨0, 10, 21, 17⟩ [] htab (fun z hz => by rcases List.mem_cons.mp hz with rfl | hz; exact Or.inr ⟨by decide, _, w3, a.2.2.2.1.2.2.2.2.2.2 _ (by decide) _ (by decide) (by decide)⟩; rw [List.mem_singleton.mp hz]; exact Or.inr ⟨by decide, _, w4, a.2.2.2.1.2.2.2.2.2.2 _ (by decide) _ (by decide) (by decide)⟩) (by decide) (by decide) w5 (va_Nw.use rfl (a.2.2.2.1.2.2.2.2.1 _ (by decide))) h1 h2 h3 hP hS hl ?_
      refine a_astore (pc := 21) a (ls1 := [(4, Value.ref q9), (0, Value.ref (ad 0)), (1, vI p2), (2, vI p3), (3, Value.ref (ad 176))]) dL_limit_21 (by decide) rfl ?_
      refine a_iconst (pc := 23) a dL_limit_23 ?_
      refine a_wid 2 12 (by decide) (by decide) ?_
      exact e_i (pc := 24) a hr dL_limit_24 h
  clear h
  intro x1 s2 h
  refine a_i2l (pc := 8) a h.1 dL_limit_8 ?_
  replace h := h.2
  refine a_last (pc := 9) a w2 (by decide) (by decide) dL_limit_9 ?_
  refine a_nmS (fun s3 hx => ?_)
  replace h := h s3 hx
  clear hx
  refine a_goto (pc := 10) a dL_limit_10 (tgt := 25) (by decide) ?_
  refine a_iconst (pc := 25) a dL_limit_25 ?_
  refine a_wid 2 12 (by decide) (by decide) ?_
  exact e_i (pc := 26) a hr dL_limit_26 h

set_option maxRecDepth 100000 in
set_option maxHeartbeats 4000000 in
theorem c_L_value {l : Launch} {D : va_G} {X : XI} {ad : Nat → Nat} (hinj : adI ad) (hl0 : l.stackTraces = false) {p2 : Int}  {σ : St} {K : Int → St → Prop} (h : f_L_value p2 σ K) (sz : Nat) : Met l yL_value (WW (.codeWith yL_value cL_value 4 (some .int) [(0, 9, 12, 15)])) { frames := 8, cells := 1, slots := 6, locals := 168 } (va_Pc [Value.ref (ad 0), vI p2, Value.ref (ad 176)] (WD D X ad σ sz)) (QI D X ad sz K) 1 6 (AA ad sz) := by
  refine aw_start (cc := cL_value) (maxL := 4) (ret := (some .int)) (own := RL) [Value.ref (ad 0), vI p2, Value.ref (ad 176)] (by decide) rfl rfl (Nat.le_of_ble_eq_true rfl) hinj hl0 ?_
  intro p e s m below meth c a hr htab hsz
  subst hsz
  have hts := a.1.2.2.2.2
  have w1 : tyc 0 (10, 0) := ⟨by decide, rfl⟩
  have w2 : tyc 176 (3, 1) := ⟨by decide, rfl⟩
  have w3 := hts (Cond.classLink RL 15 "java/lang/IllegalArgumentException") (List.mem_cons_of_mem _ (GL_5 _ (by decide +kernel)))
  unfold f_L_value at h
  refine a_sub (ls1 := [(0, Value.ref (ad 0)), (1, vI p2), (2, Value.ref (ad 176))]) [0, 1, 2] rfl ?_
  refine a_aload_n (pc := 0) a 2 dL_value_0 rfl rfl ?_
  refine a_iconst (pc := 1) a dL_value_1 ?_
  refine a_aload_n (pc := 2) a 0 dL_value_2 rfl rfl ?_
  refine a_iload_n (pc := 3) a 1 dL_value_3 rfl rfl ?_
  refine a_xvi (pc := 4) a (As := [vI p2]) (rest := [vI 0, Value.ref (ad 176)]) w1 vc6 (fun sz => c_X6_value hinj hl0  h sz) (cwV 1 hts (gl_V (GL_15 _ (by decide +kernel)) (GL_15 _ (by decide +kernel)) (GL_15 _ (by decide +kernel)) (GL_1 _ (by decide +kernel)) (GL_15 _ (by decide +kernel))) rfl rfl rfl (by decide +kernel) ⟨Nat.le_of_ble_eq_true rfl, Nat.le_of_ble_eq_true rfl⟩) rfl rfl (Nat.le_of_ble_eq_true rfl) ⟨Nat.le_of_ble_eq_true rfl, Nat.le_of_ble_eq_true rfl⟩ dL_value_4 ?_ ?_
  · intro E cx ce q9 s9 H1 locs1 la hk hE hP hS hl h1 h2 h3
    clear h
    obtain ⟨k2, kc⟩ := hk
    have h := k2 kc
    subst kc
    subst hE
    refine x_catch (pc := 4) a [] ⟨0, 9, 12, 15⟩ [] htab (fun z hz => nomatch hz) (by decide) (by decide) w3 (va_Nw.use rfl (a.2.2.2.1.2.2.2.2.1 _ (by decide))) h1 h2 h3 hP hS hl ?_
    refine a_astore_n (pc := 12) a (ls1 := [(3, Value.ref q9), (0, Value.ref (ad 0)), (1, vI p2), (2, Value.ref (ad 176))]) dL_value_12 rfl (by decide) rfl ?_
    refine a_iconst (pc := 13) a dL_value_13 ?_
    refine a_wid 1 6 (by decide) (by decide) ?_
    exact e_i (pc := 14) a hr dL_value_14 h
  clear h
  intro x1 s2 h
  refine a_i2l (pc := 7) a h.1 dL_value_7 ?_
  replace h := h.2
  refine a_last (pc := 8) a w2 (by decide) (by decide) dL_value_8 ?_
  refine a_nmS (fun s3 hx => ?_)
  replace h := h s3 hx
  clear hx
  refine a_goto (pc := 9) a dL_value_9 (tgt := 15) (by decide) ?_
  refine a_iconst (pc := 15) a dL_value_15 ?_
  refine a_wid 1 6 (by decide) (by decide) ?_
  exact e_i (pc := 16) a hr dL_value_16 h

set_option maxRecDepth 100000 in
set_option maxHeartbeats 4000000 in
theorem c_L_sign {l : Launch} {D : va_G} {X : XI} {ad : Nat → Nat} (hinj : adI ad) (hl0 : l.stackTraces = false) {p2 : Int} {p3 : Int}  {σ : St} {K : Int → St → Prop} (h : f_L_sign p2 p3 σ K) (sz : Nat) : Met l yL_sign (WW (.codeWith yL_sign cL_sign 5 (some .int) [(0, 10, 13, 13), (0, 10, 17, 15)])) { frames := 8, cells := 2, slots := 12, locals := 169 } (va_Pc [Value.ref (ad 0), vI p2, vI p3, Value.ref (ad 176)] (WD D X ad σ sz)) (QI D X ad sz K) 2 12 (AA ad sz) := by
  refine aw_start (cc := cL_sign) (maxL := 5) (ret := (some .int)) (own := RL) [Value.ref (ad 0), vI p2, vI p3, Value.ref (ad 176)] (by decide) rfl rfl (Nat.le_of_ble_eq_true rfl) hinj hl0 ?_
  intro p e s m below meth c a hr htab hsz
  subst hsz
  have hts := a.1.2.2.2.2
  have w1 : tyc 0 (10, 0) := ⟨by decide, rfl⟩
  have w2 : tyc 176 (3, 1) := ⟨by decide, rfl⟩
  have w3 := hts (Cond.classLink RL 13 "java/lang/IndexOutOfBoundsException") (List.mem_cons_of_mem _ (GL_5 _ (by decide +kernel)))
  have w4 := hts (Cond.classLink RL 15 "java/lang/IllegalArgumentException") (List.mem_cons_of_mem _ (GL_5 _ (by decide +kernel)))
  unfold f_L_sign at h
  refine a_sub (ls1 := [(0, Value.ref (ad 0)), (1, vI p2), (2, vI p3), (3, Value.ref (ad 176))]) [0, 1, 2, 3] rfl ?_
  refine a_aload_n (pc := 0) a 3 dL_sign_0 rfl rfl ?_
  refine a_iconst (pc := 1) a dL_sign_1 ?_
  refine a_aload_n (pc := 2) a 0 dL_sign_2 rfl rfl ?_
  refine a_iload_n (pc := 3) a 1 dL_sign_3 rfl rfl ?_
  refine a_iload_n (pc := 4) a 2 dL_sign_4 rfl rfl ?_
  refine a_xvi (pc := 5) a (As := [vI p2, vI p3]) (rest := [vI 0, Value.ref (ad 176)]) w1 vc6 (fun sz => c_X6_sign hinj hl0  h sz) (cwV 2 hts (gl_V (GL_25 _ (by decide +kernel)) (GL_25 _ (by decide +kernel)) (GL_25 _ (by decide +kernel)) (GL_1 _ (by decide +kernel)) (GL_25 _ (by decide +kernel))) rfl rfl rfl (by decide +kernel) ⟨Nat.le_of_ble_eq_true rfl, Nat.le_of_ble_eq_true rfl⟩) rfl rfl (Nat.le_of_ble_eq_true rfl) ⟨Nat.le_of_ble_eq_true rfl, Nat.le_of_ble_eq_true rfl⟩ dL_sign_5 ?_ ?_
  · intro E cx ce q9 s9 H1 locs1 la hk hE hP hS hl h1 h2 h3
    clear h
    obtain ⟨k1, k2, kc⟩ := hk
    rcases kc with kc | kc
    · have h := k1 kc
      subst kc
      subst hE
      refine x_catch (pc := 5) a [] ⟨0, 10, 13, 13⟩ [⟨0, 10, 17, 15⟩] htab (fun z hz => nomatch hz) (by decide) (by decide) w3 (va_Nw.use rfl (a.2.2.2.1.2.2.2.2.1 _ (by decide))) h1 h2 h3 hP hS hl ?_
      refine a_astore (pc := 13) a (ls1 := [(4, Value.ref q9), (0, Value.ref (ad 0)), (1, vI p2), (2, vI p3), (3, Value.ref (ad 176))]) dL_sign_13 (by decide) rfl ?_
      refine a_iconst (pc := 15) a dL_sign_15 ?_
      refine a_wid 2 12 (by decide) (by decide) ?_
      exact e_i (pc := 16) a hr dL_sign_16 h
    · have h := k2 kc
      subst kc
      subst hE
      refine x_catch (pc := 5) a [⟨0, 10, 13, 13⟩] ⟨0, 10, 17, 15⟩ [] htab (fun z hz => by rw [List.mem_singleton.mp hz]; exact Or.inr ⟨by decide, _, w3, a.2.2.2.1.2.2.2.2.2.2 _ (by decide) _ (by decide) (by decide)⟩) (by decide) (by decide) w4 (va_Nw.use rfl (a.2.2.2.1.2.2.2.2.1 _ (by decide))) h1 h2 h3 hP hS hl ?_
      refine a_astore (pc := 17) a (ls1 := [(4, Value.ref q9), (0, Value.ref (ad 0)), (1, vI p2), (2, vI p3), (3, Value.ref (ad 176))]) dL_sign_17 (by decide) rfl ?_
      refine a_iconst (pc := 19) a dL_sign_19 ?_
      refine a_wid 2 12 (by decide) (by decide) ?_
      exact e_i (pc := 20) a hr dL_sign_20 h
  clear h
  intro x1 s2 h
  refine a_i2l (pc := 8) a h.1 dL_sign_8 ?_
  replace h := h.2
  refine a_last (pc := 9) a w2 (by decide) (by decide) dL_sign_9 ?_
  refine a_nmS (fun s3 hx => ?_)
  replace h := h s3 hx
  clear hx
  refine a_goto (pc := 10) a dL_sign_10 (tgt := 21) (by decide) ?_
  refine a_iconst (pc := 21) a dL_sign_21 ?_
  refine a_wid 2 12 (by decide) (by decide) ?_
  exact e_i (pc := 22) a hr dL_sign_22 h

set_option maxRecDepth 100000 in
set_option maxHeartbeats 4000000 in
theorem c_L_kind {l : Launch} {D : va_G} {X : XI} {ad : Nat → Nat} (hinj : adI ad) (hl0 : l.stackTraces = false) {p2 : Int} {p3 : Int}  {σ : St} {K : Int → St → Prop} (h : f_L_kind p2 p3 σ K) (sz : Nat) : Met l yL_kind (WW (.codeWith yL_kind cL_kind 5 (some .int) [(0, 10, 13, 13), (0, 10, 17, 15)])) { frames := 8, cells := 2, slots := 12, locals := 169 } (va_Pc [Value.ref (ad 0), vI p2, vI p3, Value.ref (ad 176)] (WD D X ad σ sz)) (QI D X ad sz K) 2 12 (AA ad sz) := by
  refine aw_start (cc := cL_kind) (maxL := 5) (ret := (some .int)) (own := RL) [Value.ref (ad 0), vI p2, vI p3, Value.ref (ad 176)] (by decide) rfl rfl (Nat.le_of_ble_eq_true rfl) hinj hl0 ?_
  intro p e s m below meth c a hr htab hsz
  subst hsz
  have hts := a.1.2.2.2.2
  have w1 : tyc 0 (10, 0) := ⟨by decide, rfl⟩
  have w2 : tyc 176 (3, 1) := ⟨by decide, rfl⟩
  have w3 := hts (Cond.classLink RL 13 "java/lang/IndexOutOfBoundsException") (List.mem_cons_of_mem _ (GL_5 _ (by decide +kernel)))
  have w4 := hts (Cond.classLink RL 15 "java/lang/IllegalArgumentException") (List.mem_cons_of_mem _ (GL_5 _ (by decide +kernel)))
  unfold f_L_kind at h
  refine a_sub (ls1 := [(0, Value.ref (ad 0)), (1, vI p2), (2, vI p3), (3, Value.ref (ad 176))]) [0, 1, 2, 3] rfl ?_
  refine a_aload_n (pc := 0) a 3 dL_kind_0 rfl rfl ?_
  refine a_iconst (pc := 1) a dL_kind_1 ?_
  refine a_aload_n (pc := 2) a 0 dL_kind_2 rfl rfl ?_
  refine a_iload_n (pc := 3) a 1 dL_kind_3 rfl rfl ?_
  refine a_iload_n (pc := 4) a 2 dL_kind_4 rfl rfl ?_
  refine a_xvi (pc := 5) a (As := [vI p2, vI p3]) (rest := [vI 0, Value.ref (ad 176)]) w1 vc6 (fun sz => c_X6_kind hinj hl0  h sz) (cwV 2 hts (gl_V (GL_27 _ (by decide +kernel)) (GL_27 _ (by decide +kernel)) (GL_27 _ (by decide +kernel)) (GL_1 _ (by decide +kernel)) (GL_27 _ (by decide +kernel))) rfl rfl rfl (by decide +kernel) ⟨Nat.le_of_ble_eq_true rfl, Nat.le_of_ble_eq_true rfl⟩) rfl rfl (Nat.le_of_ble_eq_true rfl) ⟨Nat.le_of_ble_eq_true rfl, Nat.le_of_ble_eq_true rfl⟩ dL_kind_5 ?_ ?_
  · intro E cx ce q9 s9 H1 locs1 la hk hE hP hS hl h1 h2 h3
    clear h
    obtain ⟨k1, k2, kc⟩ := hk
    rcases kc with kc | kc
    · have h := k1 kc
      subst kc
      subst hE
      refine x_catch (pc := 5) a [] ⟨0, 10, 13, 13⟩ [⟨0, 10, 17, 15⟩] htab (fun z hz => nomatch hz) (by decide) (by decide) w3 (va_Nw.use rfl (a.2.2.2.1.2.2.2.2.1 _ (by decide))) h1 h2 h3 hP hS hl ?_
      refine a_astore (pc := 13) a (ls1 := [(4, Value.ref q9), (0, Value.ref (ad 0)), (1, vI p2), (2, vI p3), (3, Value.ref (ad 176))]) dL_kind_13 (by decide) rfl ?_
      refine a_iconst (pc := 15) a dL_kind_15 ?_
      refine a_wid 2 12 (by decide) (by decide) ?_
      exact e_i (pc := 16) a hr dL_kind_16 h
    · have h := k2 kc
      subst kc
      subst hE
      refine x_catch (pc := 5) a [⟨0, 10, 13, 13⟩] ⟨0, 10, 17, 15⟩ [] htab (fun z hz => by rw [List.mem_singleton.mp hz]; exact Or.inr ⟨by decide, _, w3, a.2.2.2.1.2.2.2.2.2.2 _ (by decide) _ (by decide) (by decide)⟩) (by decide) (by decide) w4 (va_Nw.use rfl (a.2.2.2.1.2.2.2.2.1 _ (by decide))) h1 h2 h3 hP hS hl ?_
      refine a_astore (pc := 17) a (ls1 := [(4, Value.ref q9), (0, Value.ref (ad 0)), (1, vI p2), (2, vI p3), (3, Value.ref (ad 176))]) dL_kind_17 (by decide) rfl ?_
      refine a_iconst (pc := 19) a dL_kind_19 ?_
      refine a_wid 2 12 (by decide) (by decide) ?_
      exact e_i (pc := 20) a hr dL_kind_20 h
  clear h
  intro x1 s2 h
  refine a_i2l (pc := 8) a h.1 dL_kind_8 ?_
  replace h := h.2
  refine a_last (pc := 9) a w2 (by decide) (by decide) dL_kind_9 ?_
  refine a_nmS (fun s3 hx => ?_)
  replace h := h s3 hx
  clear hx
  refine a_goto (pc := 10) a dL_kind_10 (tgt := 21) (by decide) ?_
  refine a_iconst (pc := 21) a dL_kind_21 ?_
  refine a_wid 2 12 (by decide) (by decide) ?_
  exact e_i (pc := 22) a hr dL_kind_22 h

set_option maxRecDepth 100000 in
set_option maxHeartbeats 4000000 in
theorem c_L_line {l : Launch} {D : va_G} {X : XI} {ad : Nat → Nat} (hinj : adI ad) (hl0 : l.stackTraces = false) {p2 : Int} {p3 : Int}  {σ : St} {K : Int → St → Prop} (h : f_L_line p2 p3 σ K) (sz : Nat) : Met l yL_line (WW (.codeWith yL_line cL_line 5 (some .int) [(0, 10, 13, 13), (0, 10, 17, 15)])) { frames := 8, cells := 1, slots := 6, locals := 169 } (va_Pc [Value.ref (ad 0), vI p2, vI p3, Value.ref (ad 176)] (WD D X ad σ sz)) (QI D X ad sz K) 1 6 (AA ad sz) := by
  refine aw_start (cc := cL_line) (maxL := 5) (ret := (some .int)) (own := RL) [Value.ref (ad 0), vI p2, vI p3, Value.ref (ad 176)] (by decide) rfl rfl (Nat.le_of_ble_eq_true rfl) hinj hl0 ?_
  intro p e s m below meth c a hr htab hsz
  subst hsz
  have hts := a.1.2.2.2.2
  have w1 : tyc 0 (10, 0) := ⟨by decide, rfl⟩
  have w2 : tyc 176 (3, 1) := ⟨by decide, rfl⟩
  have w3 := hts (Cond.classLink RL 13 "java/lang/IndexOutOfBoundsException") (List.mem_cons_of_mem _ (GL_5 _ (by decide +kernel)))
  have w4 := hts (Cond.classLink RL 15 "java/lang/IllegalArgumentException") (List.mem_cons_of_mem _ (GL_5 _ (by decide +kernel)))
  unfold f_L_line at h
  refine a_sub (ls1 := [(0, Value.ref (ad 0)), (1, vI p2), (2, vI p3), (3, Value.ref (ad 176))]) [0, 1, 2, 3] rfl ?_
  refine a_aload_n (pc := 0) a 3 dL_line_0 rfl rfl ?_
  refine a_iconst (pc := 1) a dL_line_1 ?_
  refine a_aload_n (pc := 2) a 0 dL_line_2 rfl rfl ?_
  refine a_iload_n (pc := 3) a 1 dL_line_3 rfl rfl ?_
  refine a_iload_n (pc := 4) a 2 dL_line_4 rfl rfl ?_
  refine a_xvi (pc := 5) a (As := [vI p2, vI p3]) (rest := [vI 0, Value.ref (ad 176)]) w1 vc6 (fun sz => c_X6_line hinj hl0  h sz) (cwV 2 hts (gl_V (GL_29 _ (by decide +kernel)) (GL_29 _ (by decide +kernel)) (GL_29 _ (by decide +kernel)) (GL_1 _ (by decide +kernel)) (GL_29 _ (by decide +kernel))) rfl rfl rfl (by decide +kernel) ⟨Nat.le_of_ble_eq_true rfl, Nat.le_of_ble_eq_true rfl⟩) rfl rfl (Nat.le_of_ble_eq_true rfl) ⟨Nat.le_of_ble_eq_true rfl, Nat.le_of_ble_eq_true rfl⟩ dL_line_5 ?_ ?_
  · intro E cx ce q9 s9 H1 locs1 la hk hE hP hS hl h1 h2 h3
    clear h
    obtain ⟨k1, k2, kc⟩ := hk
    rcases kc with kc | kc
    · have h := k1 kc
      subst kc
      subst hE
      refine x_catch (pc := 5) a [] ⟨0, 10, 13, 13⟩ [⟨0, 10, 17, 15⟩] htab (fun z hz => nomatch hz) (by decide) (by decide) w3 (va_Nw.use rfl (a.2.2.2.1.2.2.2.2.1 _ (by decide))) h1 h2 h3 hP hS hl ?_
      refine a_astore (pc := 13) a (ls1 := [(4, Value.ref q9), (0, Value.ref (ad 0)), (1, vI p2), (2, vI p3), (3, Value.ref (ad 176))]) dL_line_13 (by decide) rfl ?_
      refine a_iconst (pc := 15) a dL_line_15 ?_
      refine a_wid 1 6 (by decide) (by decide) ?_
      exact e_i (pc := 16) a hr dL_line_16 h
    · have h := k2 kc
      subst kc
      subst hE
      refine x_catch (pc := 5) a [⟨0, 10, 13, 13⟩] ⟨0, 10, 17, 15⟩ [] htab (fun z hz => by rw [List.mem_singleton.mp hz]; exact Or.inr ⟨by decide, _, w3, a.2.2.2.1.2.2.2.2.2.2 _ (by decide) _ (by decide) (by decide)⟩) (by decide) (by decide) w4 (va_Nw.use rfl (a.2.2.2.1.2.2.2.2.1 _ (by decide))) h1 h2 h3 hP hS hl ?_
      refine a_astore (pc := 17) a (ls1 := [(4, Value.ref q9), (0, Value.ref (ad 0)), (1, vI p2), (2, vI p3), (3, Value.ref (ad 176))]) dL_line_17 (by decide) rfl ?_
      refine a_iconst (pc := 19) a dL_line_19 ?_
      refine a_wid 1 6 (by decide) (by decide) ?_
      exact e_i (pc := 20) a hr dL_line_20 h
  clear h
  intro x1 s2 h
  refine a_i2l (pc := 8) a h.1 dL_line_8 ?_
  replace h := h.2
  refine a_last (pc := 9) a w2 (by decide) (by decide) dL_line_9 ?_
  refine a_nmS (fun s3 hx => ?_)
  replace h := h s3 hx
  clear hx
  refine a_goto (pc := 10) a dL_line_10 (tgt := 21) (by decide) ?_
  refine a_iconst (pc := 21) a dL_line_21 ?_
  refine a_wid 1 6 (by decide) (by decide) ?_
  exact e_i (pc := 22) a hr dL_line_22 h

set_option maxRecDepth 100000 in
set_option maxHeartbeats 4000000 in
theorem c_L_box {l : Launch} {D : va_G} {X : XI} {ad : Nat → Nat} (hinj : adI ad) (hl0 : l.stackTraces = false) {p2 : Int}  {σ : St} {K : Int → St → Prop} (h : f_L_box p2 σ K) (sz : Nat) : Met l yL_box (WW (.codeWith yL_box cL_box 4 (some .int) [(0, 9, 12, 15)])) { frames := 8, cells := 1, slots := 6, locals := 168 } (va_Pc [Value.ref (ad 0), vI p2, Value.ref (ad 176)] (WD D X ad σ sz)) (QI D X ad sz K) 1 6 (AA ad sz) := by
  refine aw_start (cc := cL_box) (maxL := 4) (ret := (some .int)) (own := RL) [Value.ref (ad 0), vI p2, Value.ref (ad 176)] (by decide) rfl rfl (Nat.le_of_ble_eq_true rfl) hinj hl0 ?_
  intro p e s m below meth c a hr htab hsz
  subst hsz
  have hts := a.1.2.2.2.2
  have w1 : tyc 0 (10, 0) := ⟨by decide, rfl⟩
  have w2 : tyc 176 (3, 1) := ⟨by decide, rfl⟩
  have w3 := hts (Cond.classLink RL 15 "java/lang/IllegalArgumentException") (List.mem_cons_of_mem _ (GL_5 _ (by decide +kernel)))
  unfold f_L_box at h
  refine a_sub (ls1 := [(0, Value.ref (ad 0)), (1, vI p2), (2, Value.ref (ad 176))]) [0, 1, 2] rfl ?_
  refine a_aload_n (pc := 0) a 2 dL_box_0 rfl rfl ?_
  refine a_iconst (pc := 1) a dL_box_1 ?_
  refine a_aload_n (pc := 2) a 0 dL_box_2 rfl rfl ?_
  refine a_iload_n (pc := 3) a 1 dL_box_3 rfl rfl ?_
  refine a_xvi (pc := 4) a (As := [vI p2]) (rest := [vI 0, Value.ref (ad 176)]) w1 vc6 (fun sz => c_X6_box hinj hl0  h sz) (cwV 1 hts (gl_V (GL_29 _ (by decide +kernel)) (GL_29 _ (by decide +kernel)) (GL_30 _ (by decide +kernel)) (GL_1 _ (by decide +kernel)) (GL_30 _ (by decide +kernel))) rfl rfl rfl (by decide +kernel) ⟨Nat.le_of_ble_eq_true rfl, Nat.le_of_ble_eq_true rfl⟩) rfl rfl (Nat.le_of_ble_eq_true rfl) ⟨Nat.le_of_ble_eq_true rfl, Nat.le_of_ble_eq_true rfl⟩ dL_box_4 ?_ ?_
  · intro E cx ce q9 s9 H1 locs1 la hk hE hP hS hl h1 h2 h3
    clear h
    obtain ⟨k2, kc⟩ := hk
    have h := k2 kc
    subst kc
    subst hE
    refine x_catch (pc := 4) a [] ⟨0, 9, 12, 15⟩ [] htab (fun z hz => nomatch hz) (by decide) (by decide) w3 (va_Nw.use rfl (a.2.2.2.1.2.2.2.2.1 _ (by decide))) h1 h2 h3 hP hS hl ?_
    refine a_astore_n (pc := 12) a (ls1 := [(3, Value.ref q9), (0, Value.ref (ad 0)), (1, vI p2), (2, Value.ref (ad 176))]) dL_box_12 rfl (by decide) rfl ?_
    refine a_iconst (pc := 13) a dL_box_13 ?_
    refine a_wid 1 6 (by decide) (by decide) ?_
    exact e_i (pc := 14) a hr dL_box_14 h
  clear h
  intro x1 s2 h
  refine a_i2l (pc := 7) a h.1 dL_box_7 ?_
  replace h := h.2
  refine a_last (pc := 8) a w2 (by decide) (by decide) dL_box_8 ?_
  refine a_nmS (fun s3 hx => ?_)
  replace h := h s3 hx
  clear hx
  refine a_goto (pc := 9) a dL_box_9 (tgt := 15) (by decide) ?_
  refine a_iconst (pc := 15) a dL_box_15 ?_
  refine a_wid 1 6 (by decide) (by decide) ?_
  exact e_i (pc := 16) a hr dL_box_16 h

set_option maxRecDepth 100000 in
set_option maxHeartbeats 4000000 in
theorem c_L_rounds {l : Launch} {D : va_G} {X : XI} {ad : Nat → Nat} (hinj : adI ad) (hl0 : l.stackTraces = false) {p2 : Int}  {σ : St} {K : Int → St → Prop} (h : f_L_rounds p2 σ K) (sz : Nat) : Met l yL_rounds (WW (.codeWith yL_rounds cL_rounds 4 (some .int) [(0, 9, 12, 15)])) { frames := 8, cells := 1, slots := 6, locals := 168 } (va_Pc [Value.ref (ad 0), vI p2, Value.ref (ad 176)] (WD D X ad σ sz)) (QI D X ad sz K) 1 6 (AA ad sz) := by
  refine aw_start (cc := cL_rounds) (maxL := 4) (ret := (some .int)) (own := RL) [Value.ref (ad 0), vI p2, Value.ref (ad 176)] (by decide) rfl rfl (Nat.le_of_ble_eq_true rfl) hinj hl0 ?_
  intro p e s m below meth c a hr htab hsz
  subst hsz
  have hts := a.1.2.2.2.2
  have w1 : tyc 0 (10, 0) := ⟨by decide, rfl⟩
  have w2 : tyc 176 (3, 1) := ⟨by decide, rfl⟩
  have w3 := hts (Cond.classLink RL 15 "java/lang/IllegalArgumentException") (List.mem_cons_of_mem _ (GL_5 _ (by decide +kernel)))
  unfold f_L_rounds at h
  refine a_sub (ls1 := [(0, Value.ref (ad 0)), (1, vI p2), (2, Value.ref (ad 176))]) [0, 1, 2] rfl ?_
  refine a_aload_n (pc := 0) a 2 dL_rounds_0 rfl rfl ?_
  refine a_iconst (pc := 1) a dL_rounds_1 ?_
  refine a_aload_n (pc := 2) a 0 dL_rounds_2 rfl rfl ?_
  refine a_iload_n (pc := 3) a 1 dL_rounds_3 rfl rfl ?_
  refine a_xvi (pc := 4) a (As := [vI p2]) (rest := [vI 0, Value.ref (ad 176)]) w1 vc6 (fun sz => c_X6_rounds hinj hl0  h sz) (cwV 1 hts (gl_V (GL_30 _ (by decide +kernel)) (GL_30 _ (by decide +kernel)) (GL_30 _ (by decide +kernel)) (GL_1 _ (by decide +kernel)) (GL_30 _ (by decide +kernel))) rfl rfl rfl (by decide +kernel) ⟨Nat.le_of_ble_eq_true rfl, Nat.le_of_ble_eq_true rfl⟩) rfl rfl (Nat.le_of_ble_eq_true rfl) ⟨Nat.le_of_ble_eq_true rfl, Nat.le_of_ble_eq_true rfl⟩ dL_rounds_4 ?_ ?_
  · intro E cx ce q9 s9 H1 locs1 la hk hE hP hS hl h1 h2 h3
    clear h
    obtain ⟨k2, kc⟩ := hk
    have h := k2 kc
    subst kc
    subst hE
    refine x_catch (pc := 4) a [] ⟨0, 9, 12, 15⟩ [] htab (fun z hz => nomatch hz) (by decide) (by decide) w3 (va_Nw.use rfl (a.2.2.2.1.2.2.2.2.1 _ (by decide))) h1 h2 h3 hP hS hl ?_
    refine a_astore_n (pc := 12) a (ls1 := [(3, Value.ref q9), (0, Value.ref (ad 0)), (1, vI p2), (2, Value.ref (ad 176))]) dL_rounds_12 rfl (by decide) rfl ?_
    refine a_iconst (pc := 13) a dL_rounds_13 ?_
    refine a_wid 1 6 (by decide) (by decide) ?_
    exact e_i (pc := 14) a hr dL_rounds_14 h
  clear h
  intro x1 s2 h
  refine a_i2l (pc := 7) a h.1 dL_rounds_7 ?_
  replace h := h.2
  refine a_last (pc := 8) a w2 (by decide) (by decide) dL_rounds_8 ?_
  refine a_nmS (fun s3 hx => ?_)
  replace h := h s3 hx
  clear hx
  refine a_goto (pc := 9) a dL_rounds_9 (tgt := 15) (by decide) ?_
  refine a_iconst (pc := 15) a dL_rounds_15 ?_
  refine a_wid 1 6 (by decide) (by decide) ?_
  exact e_i (pc := 16) a hr dL_rounds_16 h

set_option maxRecDepth 100000 in
set_option maxHeartbeats 4000000 in
theorem c_L_linesAt {l : Launch} {D : va_G} {X : XI} {ad : Nat → Nat} (hinj : adI ad) (hl0 : l.stackTraces = false) {p2 : Int} {p3 : Int}  {σ : St} {K : Int → St → Prop} (h : f_L_linesAt p2 p3 σ K) (sz : Nat) : Met l yL_linesAt (WW (.codeWith yL_linesAt cL_linesAt 5 (some .int) [(0, 10, 13, 15)])) { frames := 8, cells := 2, slots := 12, locals := 169 } (va_Pc [Value.ref (ad 0), vI p2, vI p3, Value.ref (ad 176)] (WD D X ad σ sz)) (QI D X ad sz K) 2 12 (AA ad sz) := by
  refine aw_start (cc := cL_linesAt) (maxL := 5) (ret := (some .int)) (own := RL) [Value.ref (ad 0), vI p2, vI p3, Value.ref (ad 176)] (by decide) rfl rfl (Nat.le_of_ble_eq_true rfl) hinj hl0 ?_
  intro p e s m below meth c a hr htab hsz
  subst hsz
  have hts := a.1.2.2.2.2
  have w1 : tyc 0 (10, 0) := ⟨by decide, rfl⟩
  have w2 : tyc 176 (3, 1) := ⟨by decide, rfl⟩
  have w3 := hts (Cond.classLink RL 15 "java/lang/IllegalArgumentException") (List.mem_cons_of_mem _ (GL_5 _ (by decide +kernel)))
  unfold f_L_linesAt at h
  refine a_sub (ls1 := [(0, Value.ref (ad 0)), (1, vI p2), (2, vI p3), (3, Value.ref (ad 176))]) [0, 1, 2, 3] rfl ?_
  refine a_aload_n (pc := 0) a 3 dL_linesAt_0 rfl rfl ?_
  refine a_iconst (pc := 1) a dL_linesAt_1 ?_
  refine a_aload_n (pc := 2) a 0 dL_linesAt_2 rfl rfl ?_
  refine a_iload_n (pc := 3) a 1 dL_linesAt_3 rfl rfl ?_
  refine a_iload_n (pc := 4) a 2 dL_linesAt_4 rfl rfl ?_
  refine a_xvi (pc := 5) a (As := [vI p2, vI p3]) (rest := [vI 0, Value.ref (ad 176)]) w1 vc6 (fun sz => c_X6_linesAt hinj hl0  h sz) (cwV 2 hts (gl_V (GL_32 _ (by decide +kernel)) (GL_32 _ (by decide +kernel)) (GL_32 _ (by decide +kernel)) (GL_1 _ (by decide +kernel)) (GL_32 _ (by decide +kernel))) rfl rfl rfl (by decide +kernel) ⟨Nat.le_of_ble_eq_true rfl, Nat.le_of_ble_eq_true rfl⟩) rfl rfl (Nat.le_of_ble_eq_true rfl) ⟨Nat.le_of_ble_eq_true rfl, Nat.le_of_ble_eq_true rfl⟩ dL_linesAt_5 ?_ ?_
  · intro E cx ce q9 s9 H1 locs1 la hk hE hP hS hl h1 h2 h3
    clear h
    obtain ⟨k2, kc⟩ := hk
    have h := k2 kc
    subst kc
    subst hE
    refine x_catch (pc := 5) a [] ⟨0, 10, 13, 15⟩ [] htab (fun z hz => nomatch hz) (by decide) (by decide) w3 (va_Nw.use rfl (a.2.2.2.1.2.2.2.2.1 _ (by decide))) h1 h2 h3 hP hS hl ?_
    refine a_astore (pc := 13) a (ls1 := [(4, Value.ref q9), (0, Value.ref (ad 0)), (1, vI p2), (2, vI p3), (3, Value.ref (ad 176))]) dL_linesAt_13 (by decide) rfl ?_
    refine a_iconst (pc := 15) a dL_linesAt_15 ?_
    refine a_wid 2 12 (by decide) (by decide) ?_
    exact e_i (pc := 16) a hr dL_linesAt_16 h
  clear h
  intro x1 s2 h
  refine a_i2l (pc := 8) a h.1 dL_linesAt_8 ?_
  replace h := h.2
  refine a_last (pc := 9) a w2 (by decide) (by decide) dL_linesAt_9 ?_
  refine a_nmS (fun s3 hx => ?_)
  replace h := h s3 hx
  clear hx
  refine a_goto (pc := 10) a dL_linesAt_10 (tgt := 17) (by decide) ?_
  refine a_iconst (pc := 17) a dL_linesAt_17 ?_
  refine a_wid 2 12 (by decide) (by decide) ?_
  exact e_i (pc := 18) a hr dL_linesAt_18 h

set_option maxRecDepth 100000 in
set_option maxHeartbeats 4000000 in
theorem c_L_zoomFor {l : Launch} {D : va_G} {X : XI} {ad : Nat → Nat} (hinj : adI ad) (hl0 : l.stackTraces = false) {p2 : Int}  {σ : St} {K : Int → St → Prop} (h : f_L_zoomFor p2 σ K) (sz : Nat) : Met l yL_zoomFor (WW (.codeWith yL_zoomFor cL_zoomFor 4 (some .int) [(0, 9, 12, 13)])) { frames := 8, cells := 1, slots := 6, locals := 133 } (va_Pc [Value.ref (ad 0), vI p2, Value.ref (ad 176)] (WD D X ad σ sz)) (QI D X ad sz K) 1 6 (AA ad sz) := by
  refine aw_start (cc := cL_zoomFor) (maxL := 4) (ret := (some .int)) (own := RL) [Value.ref (ad 0), vI p2, Value.ref (ad 176)] (by decide) rfl rfl (Nat.le_of_ble_eq_true rfl) hinj hl0 ?_
  intro p e s m below meth c a hr htab hsz
  subst hsz
  have hts := a.1.2.2.2.2
  have w1 : tyc 0 (10, 0) := ⟨by decide, rfl⟩
  have w2 : tyc 176 (3, 1) := ⟨by decide, rfl⟩
  have w3 := hts (Cond.classLink RL 13 "java/lang/IndexOutOfBoundsException") (List.mem_cons_of_mem _ (GL_5 _ (by decide +kernel)))
  unfold f_L_zoomFor at h
  refine a_sub (ls1 := [(0, Value.ref (ad 0)), (1, vI p2), (2, Value.ref (ad 176))]) [0, 1, 2] rfl ?_
  refine a_aload_n (pc := 0) a 2 dL_zoomFor_0 rfl rfl ?_
  refine a_iconst (pc := 1) a dL_zoomFor_1 ?_
  refine a_aload_n (pc := 2) a 0 dL_zoomFor_2 rfl rfl ?_
  refine a_iload_n (pc := 3) a 1 dL_zoomFor_3 rfl rfl ?_
  refine a_xvi (pc := 4) a (As := [vI p2]) (rest := [vI 0, Value.ref (ad 176)]) w1 vc6 (fun sz => c_X6_zoomFor hinj hl0  h sz) (cwV 1 hts (gl_V (GL_33 _ (by decide +kernel)) (GL_33 _ (by decide +kernel)) (GL_33 _ (by decide +kernel)) (GL_1 _ (by decide +kernel)) (GL_33 _ (by decide +kernel))) rfl rfl rfl (by decide +kernel) ⟨Nat.le_of_ble_eq_true rfl, Nat.le_of_ble_eq_true rfl⟩) rfl rfl (Nat.le_of_ble_eq_true rfl) ⟨Nat.le_of_ble_eq_true rfl, Nat.le_of_ble_eq_true rfl⟩ dL_zoomFor_4 ?_ ?_
  · intro E cx ce q9 s9 H1 locs1 la hk hE hP hS hl h1 h2 h3
    clear h
    obtain ⟨hs9, hk⟩ := hk
    subst s9
    obtain ⟨k1, kc⟩ := hk
    have h := k1 kc
    subst kc
    subst hE
    refine x_catch (pc := 4) a [] ⟨0, 9, 12, 13⟩ [] htab (fun z hz => nomatch hz) (by decide) (by decide) w3 (va_Nw.use rfl (a.2.2.2.1.2.2.2.2.1 _ (by decide))) h1 h2 h3 hP hS hl ?_
    refine a_astore_n (pc := 12) a (ls1 := [(3, Value.ref q9), (0, Value.ref (ad 0)), (1, vI p2), (2, Value.ref (ad 176))]) dL_zoomFor_12 rfl (by decide) rfl ?_
    refine a_iconst (pc := 13) a dL_zoomFor_13 ?_
    refine a_wid 1 6 (by decide) (by decide) ?_
    exact e_i (pc := 14) a hr dL_zoomFor_14 h
  rintro x1 s9 ⟨hs9, h9⟩
  subst s9
  replace h := h9
  clear h9
  refine a_i2l (pc := 7) a h.1 dL_zoomFor_7 ?_
  replace h := h.2
  refine a_last (pc := 8) a w2 (by decide) (by decide) dL_zoomFor_8 ?_
  refine a_nmS (fun s2 hx => ?_)
  replace h := h s2 hx
  clear hx
  refine a_goto (pc := 9) a dL_zoomFor_9 (tgt := 15) (by decide) ?_
  refine a_iconst (pc := 15) a dL_zoomFor_15 ?_
  refine a_wid 1 6 (by decide) (by decide) ?_
  exact e_i (pc := 16) a hr dL_zoomFor_16 h

set_option maxRecDepth 100000 in
set_option maxHeartbeats 4000000 in
theorem c_L_linesSaved {l : Launch} {D : va_G} {X : XI} {ad : Nat → Nat} (hinj : adI ad) (hl0 : l.stackTraces = false) {p2 : Int}  {σ : St} {K : Int → St → Prop} (h : f_L_linesSaved p2 σ K) (sz : Nat) : Met l yL_linesSaved (WW (.codeWith yL_linesSaved cL_linesSaved 4 (some .int) [(0, 9, 12, 13)])) { frames := 8, cells := 1, slots := 6, locals := 168 } (va_Pc [Value.ref (ad 0), vI p2, Value.ref (ad 176)] (WD D X ad σ sz)) (QI D X ad sz K) 1 6 (AA ad sz) := by
  refine aw_start (cc := cL_linesSaved) (maxL := 4) (ret := (some .int)) (own := RL) [Value.ref (ad 0), vI p2, Value.ref (ad 176)] (by decide) rfl rfl (Nat.le_of_ble_eq_true rfl) hinj hl0 ?_
  intro p e s m below meth c a hr htab hsz
  subst hsz
  have hts := a.1.2.2.2.2
  have w1 : tyc 0 (10, 0) := ⟨by decide, rfl⟩
  have w2 : tyc 176 (3, 1) := ⟨by decide, rfl⟩
  have w3 := hts (Cond.classLink RL 13 "java/lang/IndexOutOfBoundsException") (List.mem_cons_of_mem _ (GL_5 _ (by decide +kernel)))
  unfold f_L_linesSaved at h
  refine a_sub (ls1 := [(0, Value.ref (ad 0)), (1, vI p2), (2, Value.ref (ad 176))]) [0, 1, 2] rfl ?_
  refine a_aload_n (pc := 0) a 2 dL_linesSaved_0 rfl rfl ?_
  refine a_iconst (pc := 1) a dL_linesSaved_1 ?_
  refine a_aload_n (pc := 2) a 0 dL_linesSaved_2 rfl rfl ?_
  refine a_iload_n (pc := 3) a 1 dL_linesSaved_3 rfl rfl ?_
  refine a_xvi (pc := 4) a (As := [vI p2]) (rest := [vI 0, Value.ref (ad 176)]) w1 vc6 (fun sz => c_X6_linesSaved hinj hl0  h sz) (cwV 1 hts (gl_V (GL_33 _ (by decide +kernel)) (GL_33 _ (by decide +kernel)) (GL_33 _ (by decide +kernel)) (GL_1 _ (by decide +kernel)) (GL_34 _ (by decide +kernel))) rfl rfl rfl (by decide +kernel) ⟨Nat.le_of_ble_eq_true rfl, Nat.le_of_ble_eq_true rfl⟩) rfl rfl (Nat.le_of_ble_eq_true rfl) ⟨Nat.le_of_ble_eq_true rfl, Nat.le_of_ble_eq_true rfl⟩ dL_linesSaved_4 ?_ ?_
  · intro E cx ce q9 s9 H1 locs1 la hk hE hP hS hl h1 h2 h3
    clear h
    obtain ⟨k1, kc⟩ := hk
    have h := k1 kc
    subst kc
    subst hE
    refine x_catch (pc := 4) a [] ⟨0, 9, 12, 13⟩ [] htab (fun z hz => nomatch hz) (by decide) (by decide) w3 (va_Nw.use rfl (a.2.2.2.1.2.2.2.2.1 _ (by decide))) h1 h2 h3 hP hS hl ?_
    refine a_astore_n (pc := 12) a (ls1 := [(3, Value.ref q9), (0, Value.ref (ad 0)), (1, vI p2), (2, Value.ref (ad 176))]) dL_linesSaved_12 rfl (by decide) rfl ?_
    refine a_iconst (pc := 13) a dL_linesSaved_13 ?_
    refine a_wid 1 6 (by decide) (by decide) ?_
    exact e_i (pc := 14) a hr dL_linesSaved_14 h
  clear h
  intro x1 s2 h
  refine a_i2l (pc := 7) a h.1 dL_linesSaved_7 ?_
  replace h := h.2
  refine a_last (pc := 8) a w2 (by decide) (by decide) dL_linesSaved_8 ?_
  refine a_nmS (fun s3 hx => ?_)
  replace h := h s3 hx
  clear hx
  refine a_goto (pc := 9) a dL_linesSaved_9 (tgt := 15) (by decide) ?_
  refine a_iconst (pc := 15) a dL_linesSaved_15 ?_
  refine a_wid 1 6 (by decide) (by decide) ?_
  exact e_i (pc := 16) a hr dL_linesSaved_16 h

set_option maxRecDepth 100000 in
set_option maxHeartbeats 4000000 in
theorem c_L_append {l : Launch} {D : va_G} {X : XI} {ad : Nat → Nat} (hinj : adI ad) (hl0 : l.stackTraces = false) {p2 : Int}  {σ : St} {K : Int → St → Prop} (h : f_L_append p2 σ K) (sz : Nat) : Met l yL_append (WW (.codeWith yL_append cL_append 4 (some .int) [(0, 9, 12, 15), (0, 9, 15, 17)])) { frames := 8, cells := 2, slots := 12, locals := 132 } (va_Pc [Value.ref (ad 0), vI p2, Value.ref (ad 176)] (WD D X ad σ sz)) (QI D X ad sz K) 2 12 (AA ad sz) := by
  refine aw_start (cc := cL_append) (maxL := 4) (ret := (some .int)) (own := RL) [Value.ref (ad 0), vI p2, Value.ref (ad 176)] (by decide) rfl rfl (Nat.le_of_ble_eq_true rfl) hinj hl0 ?_
  intro p e s m below meth c a hr htab hsz
  subst hsz
  have hts := a.1.2.2.2.2
  have w1 : tyc 0 (10, 0) := ⟨by decide, rfl⟩
  have w2 : tyc 176 (3, 1) := ⟨by decide, rfl⟩
  have w3 := hts (Cond.classLink RL 15 "java/lang/IllegalArgumentException") (List.mem_cons_of_mem _ (GL_5 _ (by decide +kernel)))
  have w4 := hts (Cond.classLink RL 17 "java/lang/IllegalStateException") (List.mem_cons_of_mem _ (GL_6 _ (by decide +kernel)))
  unfold f_L_append at h
  refine a_sub (ls1 := [(0, Value.ref (ad 0)), (1, vI p2), (2, Value.ref (ad 176))]) [0, 1, 2] rfl ?_
  refine a_aload_n (pc := 0) a 2 dL_append_0 rfl rfl ?_
  refine a_iconst (pc := 1) a dL_append_1 ?_
  refine a_aload_n (pc := 2) a 0 dL_append_2 rfl rfl ?_
  refine a_iload_n (pc := 3) a 1 dL_append_3 rfl rfl ?_
  refine a_xvi (pc := 4) a (As := [vI p2]) (rest := [vI 0, Value.ref (ad 176)]) w1 vc6 (fun sz => c_X6_append hinj hl0  h sz) (cwV 1 hts (gl_V (GL_34 _ (by decide +kernel)) (GL_34 _ (by decide +kernel)) (GL_34 _ (by decide +kernel)) (GL_1 _ (by decide +kernel)) (GL_34 _ (by decide +kernel))) rfl rfl rfl (by decide +kernel) ⟨Nat.le_of_ble_eq_true rfl, Nat.le_of_ble_eq_true rfl⟩) rfl rfl (Nat.le_of_ble_eq_true rfl) ⟨Nat.le_of_ble_eq_true rfl, Nat.le_of_ble_eq_true rfl⟩ dL_append_4 ?_ ?_
  · intro E cx ce q9 s9 H1 locs1 la hk hE hP hS hl h1 h2 h3
    clear h
    obtain ⟨k2, k3, kc⟩ := hk
    rcases kc with kc | kc
    · have h := k2 kc
      subst kc
      subst hE
      refine x_catch (pc := 4) a [] ⟨0, 9, 12, 15⟩ [⟨0, 9, 15, 17⟩] htab (fun z hz => nomatch hz) (by decide) (by decide) w3 (va_Nw.use rfl (a.2.2.2.1.2.2.2.2.1 _ (by decide))) h1 h2 h3 hP hS hl ?_
      refine a_astore_n (pc := 12) a (ls1 := [(3, Value.ref q9), (0, Value.ref (ad 0)), (1, vI p2), (2, Value.ref (ad 176))]) dL_append_12 rfl (by decide) rfl ?_
      refine a_iconst (pc := 13) a dL_append_13 ?_
      refine a_wid 2 12 (by decide) (by decide) ?_
      exact e_i (pc := 14) a hr dL_append_14 h
    · have h := k3 kc
      subst kc
      subst hE
      refine x_catch (pc := 4) a [⟨0, 9, 12, 15⟩] ⟨0, 9, 15, 17⟩ [] htab (fun z hz => by rw [List.mem_singleton.mp hz]; exact Or.inr ⟨by decide, _, w3, a.2.2.2.1.2.2.2.2.2.2 _ (by decide) _ (by decide) (by decide)⟩) (by decide) (by decide) w4 (va_Nw.use rfl (a.2.2.2.1.2.2.2.2.1 _ (by decide))) h1 h2 h3 hP hS hl ?_
      refine a_astore_n (pc := 15) a (ls1 := [(3, Value.ref q9), (0, Value.ref (ad 0)), (1, vI p2), (2, Value.ref (ad 176))]) dL_append_15 rfl (by decide) rfl ?_
      refine a_iconst (pc := 16) a dL_append_16 ?_
      refine a_wid 2 12 (by decide) (by decide) ?_
      exact e_i (pc := 17) a hr dL_append_17 h
  clear h
  intro x1 s2 h
  refine a_i2l (pc := 7) a h.1 dL_append_7 ?_
  replace h := h.2
  refine a_last (pc := 8) a w2 (by decide) (by decide) dL_append_8 ?_
  refine a_nmS (fun s3 hx => ?_)
  replace h := h s3 hx
  clear hx
  refine a_goto (pc := 9) a dL_append_9 (tgt := 18) (by decide) ?_
  refine a_iconst (pc := 18) a dL_append_18 ?_
  refine a_wid 2 12 (by decide) (by decide) ?_
  exact e_i (pc := 19) a hr dL_append_19 h

set_option maxRecDepth 100000 in
set_option maxHeartbeats 4000000 in
theorem c_L_undo {l : Launch} {D : va_G} {X : XI} {ad : Nat → Nat} (hinj : adI ad) (hl0 : l.stackTraces = false)   {σ : St} {K : Int → St → Prop} (h : f_L_undo σ K) (sz : Nat) : Met l yL_undo (WW (.codeWith yL_undo cL_undo 3 (some .int) [(0, 8, 11, 17)])) { frames := 7, cells := 1, slots := 6, locals := 111 } (va_Pc [Value.ref (ad 0), Value.ref (ad 176)] (WD D X ad σ sz)) (QI D X ad sz K) 1 6 (AA ad sz) := by
  refine aw_start (cc := cL_undo) (maxL := 3) (ret := (some .int)) (own := RL) [Value.ref (ad 0), Value.ref (ad 176)] (by decide) rfl rfl (Nat.le_of_ble_eq_true rfl) hinj hl0 ?_
  intro p e s m below meth c a hr htab hsz
  subst hsz
  have hts := a.1.2.2.2.2
  have w1 : tyc 0 (10, 0) := ⟨by decide, rfl⟩
  have w2 : tyc 176 (3, 1) := ⟨by decide, rfl⟩
  have w3 := hts (Cond.classLink RL 17 "java/lang/IllegalStateException") (List.mem_cons_of_mem _ (GL_6 _ (by decide +kernel)))
  unfold f_L_undo at h
  refine a_sub (ls1 := [(0, Value.ref (ad 0)), (1, Value.ref (ad 176))]) [0, 1] rfl ?_
  refine a_aload_n (pc := 0) a 1 dL_undo_0 rfl rfl ?_
  refine a_iconst (pc := 1) a dL_undo_1 ?_
  refine a_aload_n (pc := 2) a 0 dL_undo_2 rfl rfl ?_
  refine a_xvi (pc := 3) a (As := []) (rest := [vI 0, Value.ref (ad 176)]) w1 vc6 (fun sz => c_X6_undo hinj hl0  h sz) (cwV 0 hts (gl_V (GL_37 _ (by decide +kernel)) (GL_37 _ (by decide +kernel)) (GL_37 _ (by decide +kernel)) (GL_1 _ (by decide +kernel)) (GL_37 _ (by decide +kernel))) rfl rfl rfl (by decide +kernel) ⟨Nat.le_of_ble_eq_true rfl, Nat.le_of_ble_eq_true rfl⟩) rfl rfl (Nat.le_of_ble_eq_true rfl) ⟨Nat.le_of_ble_eq_true rfl, Nat.le_of_ble_eq_true rfl⟩ dL_undo_3 ?_ ?_
  · intro E cx ce q9 s9 H1 locs1 la hk hE hP hS hl h1 h2 h3
    clear h
    obtain ⟨k3, kc⟩ := hk
    have h := k3 kc
    subst kc
    subst hE
    refine x_catch (pc := 3) a [] ⟨0, 8, 11, 17⟩ [] htab (fun z hz => nomatch hz) (by decide) (by decide) w3 (va_Nw.use rfl (a.2.2.2.1.2.2.2.2.1 _ (by decide))) h1 h2 h3 hP hS hl ?_
    refine a_astore_n (pc := 11) a (ls1 := [(2, Value.ref q9), (0, Value.ref (ad 0)), (1, Value.ref (ad 176))]) dL_undo_11 rfl (by decide) rfl ?_
    refine a_iconst (pc := 12) a dL_undo_12 ?_
    refine a_wid 1 6 (by decide) (by decide) ?_
    exact e_i (pc := 13) a hr dL_undo_13 h
  clear h
  intro x1 s2 h
  refine a_i2l (pc := 6) a h.1 dL_undo_6 ?_
  replace h := h.2
  refine a_last (pc := 7) a w2 (by decide) (by decide) dL_undo_7 ?_
  refine a_nmS (fun s3 hx => ?_)
  replace h := h s3 hx
  clear hx
  refine a_goto (pc := 8) a dL_undo_8 (tgt := 14) (by decide) ?_
  refine a_iconst (pc := 14) a dL_undo_14 ?_
  refine a_wid 1 6 (by decide) (by decide) ?_
  exact e_i (pc := 15) a hr dL_undo_15 h
