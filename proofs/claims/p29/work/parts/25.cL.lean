set_option maxRecDepth 100000 in
set_option maxHeartbeats 4000000 in
theorem c_L_cell {l : Launch} {D : va_G} {X : XI} {ad : Nat → Nat} (hinj : adI ad) (hl0 : l.stackTraces = false) {bb L : Nat} {xs : Nat → Int32} {xi : Int → Int} (hxi : ∀ i : Int, xi i = (xs i.toNat).toInt) (hL : L ≤ 3072) {p2 : Int}  {σ : St} {K : Int → Prop} (h : f_L_cell L xi p2 σ K) (sz : Nat) : Met l yL_cell (WW (.code yL_cell cL_cell 2 (some .int))) { frames := 0, cells := 0, slots := 0, locals := 0 } (va_Pc [Value.ref bb, vI p2] (WDS D X ad σ bb L xs sz)) (QI D X ad sz (fun r τ => τ = σ ∧ K r)) 0 0 (AA ad sz) := by
  refine aS_start (cc := cL_cell) (maxL := 2) (ret := (some .int)) (own := RL) [Value.ref bb, vI p2] (by decide) rfl rfl (Nat.le_of_ble_eq_true rfl) hinj hl0 ?_
  intro p e s m below meth c a hr hsz hX hbl hbA
  subst hsz
  have hts := a.1.2.2.2.2
  have w1 := hts (Cond.constant RL 7 (iI 40503)) (List.mem_cons_of_mem _ (GL_19 _ (by decide +kernel)))
  unfold f_L_cell at h
  refine a_sub (ls1 := [(0, Value.ref bb), (1, vI p2)]) [0, 1] rfl ?_
  refine a_iload_n (pc := 0) a 1 dL_cell_0 rfl rfl ?_
  refine a_aload_n (pc := 1) a 0 dL_cell_1 rfl rfl ?_
  refine a_slen (pc := 2) a hX hbl hbA dL_cell_2 ?_
  refine a_icmp_ge (pc := 3) a h.1 h.2.1 dL_cell_3 (tgt := 12) (by decide) (fun hq => ?_) (fun hq => ?_)
  · replace h := h.2.2.1 hq
    clear hq
    refine a_ldc (pc := 12) a (n := 40503) w1 dL_cell_12 ?_
    refine a_iload_n (pc := 14) a 1 dL_cell_14 rfl rfl ?_
    refine a_iconst (pc := 15) a dL_cell_15 ?_
    refine a_iadd (pc := 16) a dL_cell_16 ?_
    refine a_imul (pc := 17) a dL_cell_17 ?_
    exact e_i (pc := 18) a hr dL_cell_18 ⟨rfl, h⟩
  · replace h := h.2.2.2 hq
    clear hq
    refine a_aload_n (pc := 6) a 0 dL_cell_6 rfl rfl ?_
    refine a_iload_n (pc := 7) a 1 dL_cell_7 rfl rfl ?_
    refine a_sldx (pc := 8) a hX hxi hbl hbA hL h.1 dL_cell_8 ?_
    replace h := h.2
    refine a_goto (pc := 9) a dL_cell_9 (tgt := 18) (by decide) ?_
    exact e_i (pc := 18) a hr dL_cell_18 ⟨rfl, h⟩

set_option maxRecDepth 100000 in
set_option maxHeartbeats 4000000 in
theorem c_L_low {l : Launch} {D : va_G} {X : XI} {ad : Nat → Nat} (hinj : adI ad) (hl0 : l.stackTraces = false) {p1 : Int} {p2 : Int}  {σ : St} {K : Int → Prop} (h : f_L_low p1 p2 σ K) (sz : Nat) : Met l yL_low (WW (.code yL_low cL_low 2 (some .int))) { frames := 0, cells := 0, slots := 0, locals := 0 } (va_Pc [vI p1, vI p2] (WD D X ad σ sz)) (QI D X ad sz (fun r τ => τ = σ ∧ K r)) 0 0 (AA ad sz) := by
  refine aM_start (cc := cL_low) (maxL := 2) (ret := (some .int)) (own := RL) [vI p1, vI p2] (by decide) rfl rfl (Nat.le_of_ble_eq_true rfl) hinj hl0 ?_
  intro p e s m below meth c a hr hsz
  subst hsz
  have hts := a.1.2.2.2.2
  have w1 := hts (Cond.constant RL 8 (iI 2147483647)) (List.mem_cons_of_mem _ (GL_1 _ (by decide +kernel)))
  unfold f_L_low at h
  refine a_sub (ls1 := [(0, vI p1), (1, vI p2)]) [0, 1] rfl ?_
  refine a_iload_n (pc := 0) a 0 dL_low_0 rfl rfl ?_
  refine a_ldc (pc := 1) a (n := 2147483647) w1 dL_low_1 ?_
  refine a_iand (pc := 3) a dL_low_3 ?_
  refine a_iload_n (pc := 4) a 1 dL_low_4 rfl rfl ?_
  refine a_irem (pc := 5) a dL_low_5 h.1 h.2.1 ?_
  replace h := h.2.2
  exact e_i (pc := 6) a hr dL_low_6 ⟨rfl, h⟩

set_option maxRecDepth 100000 in
set_option maxHeartbeats 4000000 in
theorem c_L_classOf {l : Launch} {D : va_G} {X : XI} {ad : Nat → Nat} (hinj : adI ad) (hl0 : l.stackTraces = false) {p3 : Int}  {σ : St} {K : Int → Prop} (h : f_L_classOf p3 σ K) (sz : Nat) : Met l yL_classOf (WW (.code yL_classOf cL_classOf 5 (some .int))) { frames := 0, cells := 0, slots := 0, locals := 0 } (va_Pc [Value.ref (ad 162), Value.ref (ad 163), vI p3] (WD D X ad σ sz)) (QI D X ad sz (fun r τ => τ = σ ∧ K r)) 0 0 (AA ad sz) := by
  refine aM_start (cc := cL_classOf) (maxL := 5) (ret := (some .int)) (own := RL) [Value.ref (ad 162), Value.ref (ad 163), vI p3] (by decide) rfl rfl (Nat.le_of_ble_eq_true rfl) hinj hl0 ?_
  intro p e s m below meth c a hr hsz
  subst hsz
  have hts := a.1.2.2.2.2
  have w1 : tyc 162 (0, 32) := ⟨by decide, rfl⟩
  have w2 : tyc 163 (0, 60) := ⟨by decide, rfl⟩
  unfold f_L_classOf at h
  refine a_sub (ls1 := [(0, Value.ref (ad 162)), (1, Value.ref (ad 163)), (2, vI p3)]) [0, 1, 2] rfl ?_
  refine a_bipush (pc := 0) a dL_classOf_0 (by decide) ?_
  refine a_aload_n (pc := 2) a 1 dL_classOf_2 rfl rfl ?_
  refine a_iconst (pc := 3) a dL_classOf_3 ?_
  refine a_iload_n (pc := 4) a 2 dL_classOf_4 rfl rfl ?_
  refine a_imul (pc := 5) a dL_classOf_5 ?_
  refine a_iald (pc := 6) a (tw hinj w2) (by decide) h.1 dL_classOf_6 ?_
  replace h := h.2
  refine a_imul (pc := 7) a dL_classOf_7 ?_
  refine a_nm (fun x1 hx => ?_)
  replace h := h x1 hx
  clear hx
  refine a_istore_n (pc := 8) a (ls1 := [(3, vI x1), (0, Value.ref (ad 162)), (1, Value.ref (ad 163)), (2, vI p3)]) dL_classOf_8 rfl (by decide) rfl ?_
  refine a_iconst (pc := 9) a dL_classOf_9 ?_
  refine a_istore (pc := 10) a (ls1 := [(4, vI 0), (3, vI x1), (0, Value.ref (ad 162)), (1, Value.ref (ad 163)), (2, vI p3)]) dL_classOf_10 (by decide) rfl ?_
  refine a_sub (ls1 := [(0, Value.ref (ad 162)), (1, Value.ref (ad 163)), (2, vI p3), (3, vI x1), (4, vI 0)]) [2, 3, 4, 1, 0] rfl ?_
  refine g_wl1 (fun x2 => [(0, Value.ref (ad 162)), (1, Value.ref (ad 163)), (2, vI p3), (3, vI x1), (4, vI x2)]) h ?_
  clear h
  intro x2 ag12 hag12 h
  refine a_iload (pc := 12) a 4 dL_classOf_12 rfl ?_
  refine a_aload_n (pc := 14) a 0 dL_classOf_14 rfl rfl ?_
  refine a_iload_n (pc := 15) a 3 dL_classOf_15 rfl rfl ?_
  refine a_iconst (pc := 16) a dL_classOf_16 ?_
  refine a_iadd (pc := 17) a dL_classOf_17 ?_
  refine a_iald (pc := 18) a (tw hinj w1) (by decide) h.1 dL_classOf_18 ?_
  replace h := h.2
  refine a_icmp_ge (pc := 19) a h.1 h.2.1 dL_classOf_19 (tgt := 46) (by decide) (fun hq => ?_) (fun hq => ?_)
  · replace h := h.2.2.1 hq
    clear hq
    refine a_iload (pc := 46) a 4 dL_classOf_46 rfl ?_
    exact e_i (pc := 48) a hr dL_classOf_48 ⟨rfl, h⟩
  · replace h := h.2.2.2 hq
    clear hq
    refine a_aload_n (pc := 22) a 0 dL_classOf_22 rfl rfl ?_
    refine a_iload_n (pc := 23) a 3 dL_classOf_23 rfl rfl ?_
    refine a_iconst (pc := 24) a dL_classOf_24 ?_
    refine a_iadd (pc := 25) a dL_classOf_25 ?_
    refine a_iload (pc := 26) a 4 dL_classOf_26 rfl ?_
    refine a_iadd (pc := 28) a dL_classOf_28 ?_
    refine a_iald (pc := 29) a (tw hinj w1) (by decide) h.1 dL_classOf_29 ?_
    replace h := h.2
    refine a_aload_n (pc := 30) a 1 dL_classOf_30 rfl rfl ?_
    refine a_iconst (pc := 31) a dL_classOf_31 ?_
    refine a_iload_n (pc := 32) a 2 dL_classOf_32 rfl rfl ?_
    refine a_imul (pc := 33) a dL_classOf_33 ?_
    refine a_iconst (pc := 34) a dL_classOf_34 ?_
    refine a_iadd (pc := 35) a dL_classOf_35 ?_
    refine a_iald (pc := 36) a (tw hinj w2) (by decide) h.1 dL_classOf_36 ?_
    replace h := h.2
    refine a_icmp_gt (pc := 37) a h.1 h.2.1 dL_classOf_37 (tgt := 46) (by decide) (fun hq => ?_) (fun hq => ?_)
    · replace h := h.2.2.1 hq
      clear hq
      refine a_iload (pc := 46) a 4 dL_classOf_46 rfl ?_
      exact e_i (pc := 48) a hr dL_classOf_48 ⟨rfl, h⟩
    · replace h := h.2.2.2 hq
      clear hq
      refine a_iinc (pc := 40) a (ls1 := [(4, vI (x2 + 1)), (0, Value.ref (ad 162)), (1, Value.ref (ad 163)), (2, vI p3), (3, vI x1)]) 4 dL_classOf_40 rfl (by decide) rfl ?_
      refine a_goto (pc := 43) a dL_classOf_43 (tgt := 12) (by decide) ?_
      refine a_sub (ls1 := [(0, Value.ref (ad 162)), (1, Value.ref (ad 163)), (2, vI p3), (3, vI x1), (4, vI (x2 + 1))]) [1, 2, 3, 4, 0] rfl ?_
      exact hag12 (x2 + 1) h

set_option maxRecDepth 100000 in
set_option maxHeartbeats 4000000 in
theorem c_L_within {l : Launch} {D : va_G} {X : XI} {ad : Nat → Nat} (hinj : adI ad) (hl0 : l.stackTraces = false) {p3 : Int}  {σ : St} {K : Int → Prop} (h : f_L_within p3 σ K) (sz : Nat) : Met l yL_within (WW (.code yL_within cL_within 3 (some .boolean))) { frames := 0, cells := 0, slots := 0, locals := 0 } (va_Pc [Value.ref (ad 161), Value.ref (ad 163), vI p3] (WD D X ad σ sz)) (QI D X ad sz (fun r τ => τ = σ ∧ K r)) 0 0 (AA ad sz) := by
  refine aM_start (cc := cL_within) (maxL := 3) (ret := (some .boolean)) (own := RL) [Value.ref (ad 161), Value.ref (ad 163), vI p3] (by decide) rfl rfl (Nat.le_of_ble_eq_true rfl) hinj hl0 ?_
  intro p e s m below meth c a hr hsz
  subst hsz
  have hts := a.1.2.2.2.2
  have w1 : tyc 161 (0, 15) := ⟨by decide, rfl⟩
  have w2 : tyc 163 (0, 60) := ⟨by decide, rfl⟩
  unfold f_L_within at h
  refine a_sub (ls1 := [(0, Value.ref (ad 161)), (1, Value.ref (ad 163)), (2, vI p3)]) [0, 1, 2] rfl ?_
  refine a_aload_n (pc := 0) a 1 dL_within_0 rfl rfl ?_
  refine a_iconst (pc := 1) a dL_within_1 ?_
  refine a_iload_n (pc := 2) a 2 dL_within_2 rfl rfl ?_
  refine a_imul (pc := 3) a dL_within_3 ?_
  refine a_iconst (pc := 4) a dL_within_4 ?_
  refine a_iadd (pc := 5) a dL_within_5 ?_
  refine a_iald (pc := 6) a (tw hinj w2) (by decide) h.1 dL_within_6 ?_
  replace h := h.2
  refine a_aload_n (pc := 7) a 0 dL_within_7 rfl rfl ?_
  refine a_iconst (pc := 8) a dL_within_8 ?_
  refine a_iald (pc := 9) a (tw hinj w1) (by decide) (by decide) dL_within_9 ?_
  refine a_icmp_lt (pc := 10) a h.1 h.2.1 dL_within_10 (tgt := 66) (by decide) (fun hq => ?_) (fun hq => ?_)
  · replace h := h.2.2.1 hq
    clear hq
    refine a_iconst (pc := 66) a dL_within_66 ?_
    exact e_z (pc := 67) a hr (by decide) dL_within_67 ⟨rfl, h⟩
  · replace h := h.2.2.2 hq
    clear hq
    refine a_aload_n (pc := 13) a 1 dL_within_13 rfl rfl ?_
    refine a_iconst (pc := 14) a dL_within_14 ?_
    refine a_iload_n (pc := 15) a 2 dL_within_15 rfl rfl ?_
    refine a_imul (pc := 16) a dL_within_16 ?_
    refine a_iconst (pc := 17) a dL_within_17 ?_
    refine a_iadd (pc := 18) a dL_within_18 ?_
    refine a_iald (pc := 19) a (tw hinj w2) (by decide) h.1 dL_within_19 ?_
    replace h := h.2
    refine a_aload_n (pc := 20) a 0 dL_within_20 rfl rfl ?_
    refine a_iconst (pc := 21) a dL_within_21 ?_
    refine a_iald (pc := 22) a (tw hinj w1) (by decide) (by decide) dL_within_22 ?_
    refine a_aload_n (pc := 23) a 0 dL_within_23 rfl rfl ?_
    refine a_bipush (pc := 24) a dL_within_24 (by decide) ?_
    refine a_iald (pc := 26) a (tw hinj w1) (by decide) (by decide) dL_within_26 ?_
    refine a_iadd (pc := 27) a dL_within_27 ?_
    refine a_icmp_ge (pc := 28) a h.1 h.2.1 dL_within_28 (tgt := 66) (by decide) (fun hq => ?_) (fun hq => ?_)
    · replace h := h.2.2.1 hq
      clear hq
      refine a_iconst (pc := 66) a dL_within_66 ?_
      exact e_z (pc := 67) a hr (by decide) dL_within_67 ⟨rfl, h⟩
    · replace h := h.2.2.2 hq
      clear hq
      refine a_aload_n (pc := 31) a 1 dL_within_31 rfl rfl ?_
      refine a_iconst (pc := 32) a dL_within_32 ?_
      refine a_iload_n (pc := 33) a 2 dL_within_33 rfl rfl ?_
      refine a_imul (pc := 34) a dL_within_34 ?_
      refine a_iconst (pc := 35) a dL_within_35 ?_
      refine a_iadd (pc := 36) a dL_within_36 ?_
      refine a_iald (pc := 37) a (tw hinj w2) (by decide) h.1 dL_within_37 ?_
      replace h := h.2
      refine a_aload_n (pc := 38) a 0 dL_within_38 rfl rfl ?_
      refine a_iconst (pc := 39) a dL_within_39 ?_
      refine a_iald (pc := 40) a (tw hinj w1) (by decide) (by decide) dL_within_40 ?_
      refine a_icmp_lt (pc := 41) a h.1 h.2.1 dL_within_41 (tgt := 66) (by decide) (fun hq => ?_) (fun hq => ?_)
      · replace h := h.2.2.1 hq
        clear hq
        refine a_iconst (pc := 66) a dL_within_66 ?_
        exact e_z (pc := 67) a hr (by decide) dL_within_67 ⟨rfl, h⟩
      · replace h := h.2.2.2 hq
        clear hq
        refine a_aload_n (pc := 44) a 1 dL_within_44 rfl rfl ?_
        refine a_iconst (pc := 45) a dL_within_45 ?_
        refine a_iload_n (pc := 46) a 2 dL_within_46 rfl rfl ?_
        refine a_imul (pc := 47) a dL_within_47 ?_
        refine a_iconst (pc := 48) a dL_within_48 ?_
        refine a_iadd (pc := 49) a dL_within_49 ?_
        refine a_iald (pc := 50) a (tw hinj w2) (by decide) h.1 dL_within_50 ?_
        replace h := h.2
        refine a_aload_n (pc := 51) a 0 dL_within_51 rfl rfl ?_
        refine a_iconst (pc := 52) a dL_within_52 ?_
        refine a_iald (pc := 53) a (tw hinj w1) (by decide) (by decide) dL_within_53 ?_
        refine a_aload_n (pc := 54) a 0 dL_within_54 rfl rfl ?_
        refine a_bipush (pc := 55) a dL_within_55 (by decide) ?_
        refine a_iald (pc := 57) a (tw hinj w1) (by decide) (by decide) dL_within_57 ?_
        refine a_iadd (pc := 58) a dL_within_58 ?_
        refine a_icmp_ge (pc := 59) a h.1 h.2.1 dL_within_59 (tgt := 66) (by decide) (fun hq => ?_) (fun hq => ?_)
        · replace h := h.2.2.1 hq
          clear hq
          refine a_iconst (pc := 66) a dL_within_66 ?_
          exact e_z (pc := 67) a hr (by decide) dL_within_67 ⟨rfl, h⟩
        · replace h := h.2.2.2 hq
          clear hq
          refine a_iconst (pc := 62) a dL_within_62 ?_
          refine a_goto (pc := 63) a dL_within_63 (tgt := 67) (by decide) ?_
          exact e_z (pc := 67) a hr (by decide) dL_within_67 ⟨rfl, h⟩

set_option maxRecDepth 100000 in
set_option maxHeartbeats 4000000 in
theorem c_L_shown {l : Launch} {D : va_G} {X : XI} {ad : Nat → Nat} (hinj : adI ad) (hl0 : l.stackTraces = false)   {σ : St} {K : Int → Prop} (h : f_L_shown σ K) (sz : Nat) : Met l yL_shown (WW (.code yL_shown cL_shown 4 (some .int))) { frames := 1, cells := 0, slots := 0, locals := 22 } (va_Pc [Value.ref (ad 161), Value.ref (ad 163)] (WD D X ad σ sz)) (QI D X ad sz (fun r τ => τ = σ ∧ K r)) 0 0 (AA ad sz) := by
  refine aM_start (cc := cL_shown) (maxL := 4) (ret := (some .int)) (own := RL) [Value.ref (ad 161), Value.ref (ad 163)] (by decide) rfl rfl (Nat.le_of_ble_eq_true rfl) hinj hl0 ?_
  intro p e s m below meth c a hr hsz
  subst hsz
  have hts := a.1.2.2.2.2
  have w1 : tyc 161 (0, 15) := ⟨by decide, rfl⟩
  have w2 : tyc 163 (0, 60) := ⟨by decide, rfl⟩
  unfold f_L_shown at h
  refine a_sub (ls1 := [(0, Value.ref (ad 161)), (1, Value.ref (ad 163))]) [0, 1] rfl ?_
  refine a_iconst (pc := 0) a dL_shown_0 ?_
  refine a_istore_n (pc := 1) a (ls1 := [(2, vI 0), (0, Value.ref (ad 161)), (1, Value.ref (ad 163))]) dL_shown_1 rfl (by decide) rfl ?_
  refine a_iconst (pc := 2) a dL_shown_2 ?_
  refine a_istore_n (pc := 3) a (ls1 := [(3, vI 0), (2, vI 0), (0, Value.ref (ad 161)), (1, Value.ref (ad 163))]) dL_shown_3 rfl (by decide) rfl ?_
  refine a_sub (ls1 := [(0, Value.ref (ad 161)), (1, Value.ref (ad 163)), (2, vI 0), (3, vI 0)]) [2, 3, 1, 0] rfl ?_
  refine g_wl2 (fun x1 x2 => [(0, Value.ref (ad 161)), (1, Value.ref (ad 163)), (2, vI x1), (3, vI x2)]) h ?_
  clear h
  intro x1 x2 ag4 hag4 h
  refine a_iload_n (pc := 4) a 3 dL_shown_4 rfl rfl ?_
  refine a_aload_n (pc := 5) a 0 dL_shown_5 rfl rfl ?_
  refine a_bipush (pc := 6) a dL_shown_6 (by decide) ?_
  refine a_iald (pc := 8) a (tw hinj w1) (by decide) (by decide) dL_shown_8 ?_
  refine a_icmp_ge (pc := 9) a h.1 h.2.1 dL_shown_9 (tgt := 51) (by decide) (fun hq => ?_) (fun hq => ?_)
  · replace h := h.2.2.1 hq
    clear hq
    refine a_iload_n (pc := 51) a 2 dL_shown_51 rfl rfl ?_
    exact e_i (pc := 52) a hr dL_shown_52 ⟨rfl, h⟩
  · replace h := h.2.2.2 hq
    clear hq
    refine a_iload_n (pc := 12) a 2 dL_shown_12 rfl rfl ?_
    refine a_aload_n (pc := 13) a 0 dL_shown_13 rfl rfl ?_
    refine a_aload_n (pc := 14) a 1 dL_shown_14 rfl rfl ?_
    refine a_iload_n (pc := 15) a 3 dL_shown_15 rfl rfl ?_
    refine a_csi (pc := 16) a (As := [Value.ref (ad 161), Value.ref (ad 163), vI x2]) (rest := [vI x1]) (fun sz => c_L_within hinj hl0  h sz) (va_cwS 3 hts (gl_S (GL_5 _ (by decide +kernel)) (GL_5 _ (by decide +kernel)) (GL_4 _ (by decide +kernel)) (GL_5 _ (by decide +kernel))) rfl rfl rfl (by decide +kernel) ⟨Nat.le_of_ble_eq_true rfl, Nat.le_of_ble_eq_true rfl⟩) rfl rfl (Nat.le_of_ble_eq_true rfl) ⟨Nat.le_of_ble_eq_true rfl, Nat.le_of_ble_eq_true rfl⟩ dL_shown_16 ?_
    rintro x3 s9 ⟨hs9, h9⟩
    subst s9
    replace h := h9
    clear h9
    refine a_if_eq (pc := 19) a h.1 dL_shown_19 (tgt := 42) (by decide) (fun hq => ?_) (fun hq => ?_)
    · replace h := h.2.1 hq
      clear hq
      refine a_iconst (pc := 42) a dL_shown_42 ?_
      refine a_ior (pc := 43) a dL_shown_43 ?_
      refine a_nm (fun x4 hx => ?_)
      replace h := h x4 hx
      clear hx
      refine a_istore_n (pc := 44) a (ls1 := [(2, vI x4), (0, Value.ref (ad 161)), (1, Value.ref (ad 163)), (3, vI x2)]) dL_shown_44 rfl (by decide) rfl ?_
      refine a_iinc (pc := 45) a (ls1 := [(3, vI (x2 + 1)), (2, vI x4), (0, Value.ref (ad 161)), (1, Value.ref (ad 163))]) 3 dL_shown_45 rfl (by decide) rfl ?_
      refine a_goto (pc := 48) a dL_shown_48 (tgt := 4) (by decide) ?_
      refine a_sub (ls1 := [(0, Value.ref (ad 161)), (1, Value.ref (ad 163)), (2, vI x4), (3, vI (x2 + 1))]) [2, 3, 1, 0] rfl ?_
      exact hag4 x4 (x2 + 1) h
    · replace h := h.2.2 hq
      clear hq
      refine a_aload_n (pc := 22) a 1 dL_shown_22 rfl rfl ?_
      refine a_iconst (pc := 23) a dL_shown_23 ?_
      refine a_iload_n (pc := 24) a 3 dL_shown_24 rfl rfl ?_
      refine a_imul (pc := 25) a dL_shown_25 ?_
      refine a_iconst (pc := 26) a dL_shown_26 ?_
      refine a_iadd (pc := 27) a dL_shown_27 ?_
      refine a_iald (pc := 28) a (tw hinj w2) (by decide) h.1 dL_shown_28 ?_
      replace h := h.2
      refine a_aload_n (pc := 29) a 0 dL_shown_29 rfl rfl ?_
      refine a_bipush (pc := 30) a dL_shown_30 (by decide) ?_
      refine a_iald (pc := 32) a (tw hinj w1) (by decide) (by decide) dL_shown_32 ?_
      refine a_icmp_gt (pc := 33) a h.1 h.2.1 dL_shown_33 (tgt := 42) (by decide) (fun hq => ?_) (fun hq => ?_)
      · replace h := h.2.2.1 hq
        clear hq
        refine a_iconst (pc := 42) a dL_shown_42 ?_
        refine a_ior (pc := 43) a dL_shown_43 ?_
        refine a_nm (fun x5 hx => ?_)
        replace h := h x5 hx
        clear hx
        refine a_istore_n (pc := 44) a (ls1 := [(2, vI x5), (0, Value.ref (ad 161)), (1, Value.ref (ad 163)), (3, vI x2)]) dL_shown_44 rfl (by decide) rfl ?_
        refine a_iinc (pc := 45) a (ls1 := [(3, vI (x2 + 1)), (2, vI x5), (0, Value.ref (ad 161)), (1, Value.ref (ad 163))]) 3 dL_shown_45 rfl (by decide) rfl ?_
        refine a_goto (pc := 48) a dL_shown_48 (tgt := 4) (by decide) ?_
        refine a_sub (ls1 := [(0, Value.ref (ad 161)), (1, Value.ref (ad 163)), (2, vI x5), (3, vI (x2 + 1))]) [2, 3, 1, 0] rfl ?_
        exact hag4 x5 (x2 + 1) h
      · replace h := h.2.2.2 hq
        clear hq
        refine a_iconst (pc := 36) a dL_shown_36 ?_
        refine a_iload_n (pc := 37) a 3 dL_shown_37 rfl rfl ?_
        refine a_ishl (pc := 38) a dL_shown_38 ?_
        refine a_goto (pc := 39) a dL_shown_39 (tgt := 43) (by decide) ?_
        refine a_ior (pc := 43) a dL_shown_43 ?_
        refine a_nm (fun x6 hx => ?_)
        replace h := h x6 hx
        clear hx
        refine a_istore_n (pc := 44) a (ls1 := [(2, vI x6), (0, Value.ref (ad 161)), (1, Value.ref (ad 163)), (3, vI x2)]) dL_shown_44 rfl (by decide) rfl ?_
        refine a_iinc (pc := 45) a (ls1 := [(3, vI (x2 + 1)), (2, vI x6), (0, Value.ref (ad 161)), (1, Value.ref (ad 163))]) 3 dL_shown_45 rfl (by decide) rfl ?_
        refine a_goto (pc := 48) a dL_shown_48 (tgt := 4) (by decide) ?_
        refine a_sub (ls1 := [(0, Value.ref (ad 161)), (1, Value.ref (ad 163)), (2, vI x6), (3, vI (x2 + 1))]) [2, 3, 1, 0] rfl ?_
        exact hag4 x6 (x2 + 1) h

set_option maxRecDepth 100000 in
set_option maxHeartbeats 4000000 in
theorem c_L_bits {l : Launch} {D : va_G} {X : XI} {ad : Nat → Nat} (hinj : adI ad) (hl0 : l.stackTraces = false) {p1 : Int}  {σ : St} {K : Int → Prop} (h : f_L_bits p1 σ K) (sz : Nat) : Met l yL_bits (WW (.code yL_bits cL_bits 3 (some .int))) { frames := 0, cells := 0, slots := 0, locals := 0 } (va_Pc [vI p1] (WD D X ad σ sz)) (QI D X ad sz (fun r τ => τ = σ ∧ K r)) 0 0 (AA ad sz) := by
  refine aM_start (cc := cL_bits) (maxL := 3) (ret := (some .int)) (own := RL) [vI p1] (by decide) rfl rfl (Nat.le_of_ble_eq_true rfl) hinj hl0 ?_
  intro p e s m below meth c a hr hsz
  subst hsz
  have hts := a.1.2.2.2.2
  unfold f_L_bits at h
  refine a_sub (ls1 := [(0, vI p1)]) [0] rfl ?_
  refine a_iconst (pc := 0) a dL_bits_0 ?_
  refine a_istore_n (pc := 1) a (ls1 := [(1, vI 0), (0, vI p1)]) dL_bits_1 rfl (by decide) rfl ?_
  refine a_iload_n (pc := 2) a 1 dL_bits_2 rfl rfl ?_
  refine a_istore_n (pc := 3) a (ls1 := [(2, vI p1), (1, vI 0), (0, vI p1)]) dL_bits_3 rfl (by decide) rfl ?_
  refine a_sub (ls1 := [(1, vI 0), (2, vI p1)]) [1, 0] rfl ?_
  refine g_wl2 (fun x1 x2 => [(1, vI x1), (2, vI x2)]) h ?_
  clear h
  intro x1 x2 ag4 hag4 h
  refine a_iload_n (pc := 4) a 1 dL_bits_4 rfl rfl ?_
  refine a_if_le (pc := 5) a h.1 dL_bits_5 (tgt := 20) (by decide) (fun hq => ?_) (fun hq => ?_)
  · replace h := h.2.1 hq
    clear hq
    refine a_iload_n (pc := 20) a 0 dL_bits_20 rfl rfl ?_
    exact e_i (pc := 21) a hr dL_bits_21 ⟨rfl, h⟩
  · replace h := h.2.2 hq
    clear hq
    refine a_iinc (pc := 8) a (ls1 := [(1, vI (x1 + 1)), (2, vI x2)]) 0 dL_bits_8 rfl (by decide) rfl ?_
    refine a_iload_n (pc := 11) a 1 dL_bits_11 rfl rfl ?_
    refine a_iload_n (pc := 12) a 1 dL_bits_12 rfl rfl ?_
    refine a_iconst (pc := 13) a dL_bits_13 ?_
    refine a_isub (pc := 14) a dL_bits_14 ?_
    refine a_iand (pc := 15) a dL_bits_15 ?_
    refine a_nm (fun x3 hx => ?_)
    replace h := h x3 hx
    clear hx
    refine a_istore_n (pc := 16) a (ls1 := [(2, vI x3), (1, vI (x1 + 1))]) dL_bits_16 rfl (by decide) rfl ?_
    refine a_goto (pc := 17) a dL_bits_17 (tgt := 4) (by decide) ?_
    refine a_sub (ls1 := [(1, vI (x1 + 1)), (2, vI x3)]) [1, 0] rfl ?_
    exact hag4 (x1 + 1) x3 h

set_option maxRecDepth 100000 in
set_option maxHeartbeats 4000000 in
theorem c_L_key {l : Launch} {D : va_G} {X : XI} {ad : Nat → Nat} (hinj : adI ad) (hl0 : l.stackTraces = false) {p2 : Int}  {σ : St} {K : Int → Prop} (h : f_L_key p2 σ K) (sz : Nat) : Met l yL_key (WW (.code yL_key cL_key 2 (some .int))) { frames := 0, cells := 0, slots := 0, locals := 0 } (va_Pc [Value.ref (ad 162), vI p2] (WD D X ad σ sz)) (QI D X ad sz (fun r τ => τ = σ ∧ K r)) 0 0 (AA ad sz) := by
  refine aM_start (cc := cL_key) (maxL := 2) (ret := (some .int)) (own := RL) [Value.ref (ad 162), vI p2] (by decide) rfl rfl (Nat.le_of_ble_eq_true rfl) hinj hl0 ?_
  intro p e s m below meth c a hr hsz
  subst hsz
  have hts := a.1.2.2.2.2
  have w1 : tyc 162 (0, 32) := ⟨by decide, rfl⟩
  unfold f_L_key at h
  refine a_sub (ls1 := [(0, Value.ref (ad 162)), (1, vI p2)]) [0, 1] rfl ?_
  refine a_iconst (pc := 0) a dL_key_0 ?_
  refine a_aload_n (pc := 1) a 0 dL_key_1 rfl rfl ?_
  refine a_bipush (pc := 2) a dL_key_2 (by decide) ?_
  refine a_iload_n (pc := 4) a 1 dL_key_4 rfl rfl ?_
  refine a_imul (pc := 5) a dL_key_5 ?_
  refine a_iald (pc := 6) a (tw hinj w1) (by decide) h.1 dL_key_6 ?_
  replace h := h.2
  refine a_imul (pc := 7) a dL_key_7 ?_
  refine a_iload_n (pc := 8) a 1 dL_key_8 rfl rfl ?_
  refine a_iadd (pc := 9) a dL_key_9 ?_
  exact e_i (pc := 10) a hr dL_key_10 ⟨rfl, h⟩

set_option maxRecDepth 100000 in
set_option maxHeartbeats 4000000 in
theorem c_L_block {l : Launch} {D : va_G} {X : XI} {ad : Nat → Nat} (hinj : adI ad) (hl0 : l.stackTraces = false) {p2 : Int} {p3 : Int}  {σ : St} {K : Int → Prop} (h : f_L_block p2 p3 σ K) (sz : Nat) : Met l yL_block (WW (.code yL_block cL_block 6 (some .int))) { frames := 1, cells := 0, slots := 0, locals := 21 } (va_Pc [Value.ref (ad 162), vI p2, vI p3] (WD D X ad σ sz)) (QI D X ad sz (fun r τ => τ = σ ∧ K r)) 0 0 (AA ad sz) := by
  refine aM_start (cc := cL_block) (maxL := 6) (ret := (some .int)) (own := RL) [Value.ref (ad 162), vI p2, vI p3] (by decide) rfl rfl (Nat.le_of_ble_eq_true rfl) hinj hl0 ?_
  intro p e s m below meth c a hr hsz
  subst hsz
  have hts := a.1.2.2.2.2
  have w1 : tyc 162 (0, 32) := ⟨by decide, rfl⟩
  unfold f_L_block at h
  refine a_sub (ls1 := [(0, Value.ref (ad 162)), (1, vI p2), (2, vI p3)]) [0, 1, 2] rfl ?_
  refine a_aload_n (pc := 0) a 0 dL_block_0 rfl rfl ?_
  refine a_iload_n (pc := 1) a 2 dL_block_1 rfl rfl ?_
  refine a_csi (pc := 2) a (As := [Value.ref (ad 162), vI p3]) (rest := []) (fun sz => c_L_key hinj hl0  h sz) (va_cwS 2 hts (gl_S (GL_6 _ (by decide +kernel)) (GL_6 _ (by decide +kernel)) (GL_4 _ (by decide +kernel)) (GL_6 _ (by decide +kernel))) rfl rfl rfl (by decide +kernel) ⟨Nat.le_of_ble_eq_true rfl, Nat.le_of_ble_eq_true rfl⟩) rfl rfl (Nat.le_of_ble_eq_true rfl) ⟨Nat.le_of_ble_eq_true rfl, Nat.le_of_ble_eq_true rfl⟩ dL_block_2 ?_
  rintro x1 s9 ⟨hs9, h9⟩
  subst s9
  replace h := h9
  clear h9
  refine a_istore_n (pc := 5) a (ls1 := [(3, vI x1), (0, Value.ref (ad 162)), (1, vI p2), (2, vI p3)]) dL_block_5 rfl (by decide) rfl ?_
  refine a_iconst (pc := 6) a dL_block_6 ?_
  refine a_istore (pc := 7) a (ls1 := [(4, vI 0), (3, vI x1), (0, Value.ref (ad 162)), (1, vI p2), (2, vI p3)]) dL_block_7 (by decide) rfl ?_
  refine a_sub (ls1 := [(0, Value.ref (ad 162)), (1, vI p2), (2, vI p3), (3, vI x1), (4, vI 0)]) [2, 3, 4, 1, 0] rfl ?_
  refine g_wl2 (fun x2 x3 => [(0, Value.ref (ad 162)), (1, vI p2), (2, vI p3), (3, vI x2), (4, vI x3)]) h ?_
  clear h
  intro x2 x3 ag9 hag9 h
  refine a_iload (pc := 9) a 4 dL_block_9 rfl ?_
  refine a_iconst (pc := 11) a dL_block_11 ?_
  refine a_icmp_ge (pc := 12) a h.1 ⟨by decide, by decide⟩ dL_block_12 (tgt := 95) (by decide) (fun hq => ?_) (fun hq => ?_)
  · replace h := h.2.1 hq
    clear hq
    refine a_iload_n (pc := 95) a 3 dL_block_95 rfl rfl ?_
    exact e_i (pc := 96) a hr dL_block_96 ⟨rfl, h⟩
  · replace h := h.2.2 hq
    clear hq
    refine a_iload_n (pc := 15) a 1 dL_block_15 rfl rfl ?_
    refine a_iload (pc := 16) a 4 dL_block_16 rfl ?_
    refine a_ishr (pc := 18) a dL_block_18 ?_
    refine a_iconst (pc := 19) a dL_block_19 ?_
    refine a_iand (pc := 20) a dL_block_20 ?_
    refine a_iconst (pc := 21) a dL_block_21 ?_
    refine g_wj1 61 0 0 (fun x6 => [(0, Value.ref (ad 162)), (1, vI p2), (2, vI p3), (3, vI x2), (4, vI x3)]) (fun x6 => [vI x6]) h ?_ ?_
    · clear h
      intro x6 h
      refine a_istore (pc := 61) a (ls1 := [(5, vI x6), (0, Value.ref (ad 162)), (1, vI p2), (2, vI p3), (3, vI x2), (4, vI x3)]) dL_block_61 (by decide) rfl ?_
      refine a_iload (pc := 63) a 0 dL_block_63 rfl ?_
      refine a_if_eq (pc := 65) a h.1 dL_block_65 (tgt := 87) (by decide) (fun hq => ?_) (fun hq => ?_)
      · replace h := h.2.1 hq
        clear hq
        refine a_iload_n (pc := 87) a 4 dL_block_87 rfl rfl ?_
        refine a_istore_n (pc := 88) a (ls1 := [(3, vI x2), (5, vI x6), (0, Value.ref (ad 162)), (1, vI p2), (2, vI p3), (4, vI x3)]) dL_block_88 rfl (by decide) rfl ?_
        refine a_iinc (pc := 89) a (ls1 := [(4, vI (x3 + 1)), (3, vI x2), (5, vI x6), (0, Value.ref (ad 162)), (1, vI p2), (2, vI p3)]) 5 dL_block_89 rfl (by decide) rfl ?_
        refine a_goto (pc := 92) a dL_block_92 (tgt := 9) (by decide) ?_
        refine a_sub (ls1 := [(0, Value.ref (ad 162)), (1, vI p2), (2, vI p3), (3, vI x2), (4, vI (x3 + 1))]) [3, 4, 5, 1, 0] rfl ?_
        exact hag9 x2 (x3 + 1) h
      · replace h := h.2.2 hq
        clear hq
        refine a_aload_n (pc := 68) a 1 dL_block_68 rfl rfl ?_
        refine a_iload (pc := 69) a 5 dL_block_69 rfl ?_
        refine a_csi (pc := 71) a (As := [Value.ref (ad 162), vI x3]) (rest := []) (fun sz => c_L_key hinj hl0  h sz) (va_cwS 2 hts (gl_S (GL_6 _ (by decide +kernel)) (GL_6 _ (by decide +kernel)) (GL_4 _ (by decide +kernel)) (GL_6 _ (by decide +kernel))) rfl rfl rfl (by decide +kernel) ⟨Nat.le_of_ble_eq_true rfl, Nat.le_of_ble_eq_true rfl⟩) rfl rfl (Nat.le_of_ble_eq_true rfl) ⟨Nat.le_of_ble_eq_true rfl, Nat.le_of_ble_eq_true rfl⟩ dL_block_71 ?_
        rintro x7 s9 ⟨hs9, h9⟩
        subst s9
        replace h := h9
        clear h9
        refine a_iload_n (pc := 74) a 4 dL_block_74 rfl rfl ?_
        refine a_icmp_ge (pc := 75) a h.1 h.2.1 dL_block_75 (tgt := 87) (by decide) (fun hq => ?_) (fun hq => ?_)
        · replace h := h.2.2.1 hq
          clear hq
          refine a_iload_n (pc := 87) a 4 dL_block_87 rfl rfl ?_
          refine a_istore_n (pc := 88) a (ls1 := [(3, vI x2), (5, vI x6), (0, Value.ref (ad 162)), (1, vI p2), (2, vI p3), (4, vI x3)]) dL_block_88 rfl (by decide) rfl ?_
          refine a_iinc (pc := 89) a (ls1 := [(4, vI (x3 + 1)), (3, vI x2), (5, vI x6), (0, Value.ref (ad 162)), (1, vI p2), (2, vI p3)]) 5 dL_block_89 rfl (by decide) rfl ?_
          refine a_goto (pc := 92) a dL_block_92 (tgt := 9) (by decide) ?_
          refine a_sub (ls1 := [(0, Value.ref (ad 162)), (1, vI p2), (2, vI p3), (3, vI x2), (4, vI (x3 + 1))]) [3, 4, 5, 1, 0] rfl ?_
          exact hag9 x2 (x3 + 1) h
        · replace h := h.2.2.2 hq
          clear hq
          refine a_aload_n (pc := 78) a 1 dL_block_78 rfl rfl ?_
          refine a_iload (pc := 79) a 5 dL_block_79 rfl ?_
          refine a_csi (pc := 81) a (As := [Value.ref (ad 162), vI x3]) (rest := []) (fun sz => c_L_key hinj hl0  h sz) (va_cwS 2 hts (gl_S (GL_6 _ (by decide +kernel)) (GL_6 _ (by decide +kernel)) (GL_4 _ (by decide +kernel)) (GL_6 _ (by decide +kernel))) rfl rfl rfl (by decide +kernel) ⟨Nat.le_of_ble_eq_true rfl, Nat.le_of_ble_eq_true rfl⟩) rfl rfl (Nat.le_of_ble_eq_true rfl) ⟨Nat.le_of_ble_eq_true rfl, Nat.le_of_ble_eq_true rfl⟩ dL_block_81 ?_
          rintro x8 s9 ⟨hs9, h9⟩
          subst s9
          replace h := h9
          clear h9
          refine a_goto (pc := 84) a dL_block_84 (tgt := 88) (by decide) ?_
          refine a_istore_n (pc := 88) a (ls1 := [(3, vI x8), (5, vI x6), (0, Value.ref (ad 162)), (1, vI p2), (2, vI p3), (4, vI x3)]) dL_block_88 rfl (by decide) rfl ?_
          refine a_iinc (pc := 89) a (ls1 := [(4, vI (x3 + 1)), (3, vI x8), (5, vI x6), (0, Value.ref (ad 162)), (1, vI p2), (2, vI p3)]) 5 dL_block_89 rfl (by decide) rfl ?_
          refine a_goto (pc := 92) a dL_block_92 (tgt := 9) (by decide) ?_
          refine a_sub (ls1 := [(0, Value.ref (ad 162)), (1, vI p2), (2, vI p3), (3, vI x8), (4, vI (x3 + 1))]) [3, 4, 5, 1, 0] rfl ?_
          exact hag9 x8 (x3 + 1) h
    · clear h
      intro jj61 hjj61 h
      refine g_wj0 60 0 0 [(0, Value.ref (ad 162)), (1, vI p2), (2, vI p3), (3, vI x2), (4, vI x3)] [] h ?_ ?_
      · clear h
        intro  h
        refine a_iconst (pc := 60) a dL_block_60 ?_
        exact hjj61 0 h
      · clear h
        intro jj60 hjj60 h
        refine a_icmp_ne (pc := 22) a h.1 ⟨by decide, by decide⟩ dL_block_22 (tgt := 60) (by decide) (fun hq => ?_) (fun hq => ?_)
        · replace h := h.2.1 hq
          clear hq
          refine a_wid 0 0 (by omega) (by omega) ?_
          exact hjj60  h
        · replace h := h.2.2 hq
          clear hq
          refine a_aload_n (pc := 25) a 0 dL_block_25 rfl rfl ?_
          refine a_bipush (pc := 26) a dL_block_26 (by decide) ?_
          refine a_iload_n (pc := 28) a 2 dL_block_28 rfl rfl ?_
          refine a_imul (pc := 29) a dL_block_29 ?_
          refine a_iconst (pc := 30) a dL_block_30 ?_
          refine a_iadd (pc := 31) a dL_block_31 ?_
          refine a_iald (pc := 32) a (tw hinj w1) (by decide) h.1 dL_block_32 ?_
          replace h := h.2
          refine a_if_lt (pc := 33) a h.1 dL_block_33 (tgt := 60) (by decide) (fun hq => ?_) (fun hq => ?_)
          · replace h := h.2.1 hq
            clear hq
            refine a_wid 0 0 (by omega) (by omega) ?_
            exact hjj60  h
          · replace h := h.2.2 hq
            clear hq
            refine a_aload_n (pc := 36) a 0 dL_block_36 rfl rfl ?_
            refine a_bipush (pc := 37) a dL_block_37 (by decide) ?_
            refine a_iload (pc := 39) a 4 dL_block_39 rfl ?_
            refine a_imul (pc := 41) a dL_block_41 ?_
            refine a_iconst (pc := 42) a dL_block_42 ?_
            refine a_iadd (pc := 43) a dL_block_43 ?_
            refine a_iald (pc := 44) a (tw hinj w1) (by decide) h.1 dL_block_44 ?_
            replace h := h.2
            refine a_aload_n (pc := 45) a 0 dL_block_45 rfl rfl ?_
            refine a_bipush (pc := 46) a dL_block_46 (by decide) ?_
            refine a_iload_n (pc := 48) a 2 dL_block_48 rfl rfl ?_
            refine a_imul (pc := 49) a dL_block_49 ?_
            refine a_iconst (pc := 50) a dL_block_50 ?_
            refine a_iadd (pc := 51) a dL_block_51 ?_
            refine a_iald (pc := 52) a (tw hinj w1) (by decide) h.1 dL_block_52 ?_
            replace h := h.2
            refine a_icmp_ne (pc := 53) a h.1 h.2.1 dL_block_53 (tgt := 60) (by decide) (fun hq => ?_) (fun hq => ?_)
            · replace h := h.2.2.1 hq
              clear hq
              refine a_wid 0 0 (by omega) (by omega) ?_
              exact hjj60  h
            · replace h := h.2.2.2 hq
              clear hq
              refine a_iconst (pc := 56) a dL_block_56 ?_
              refine a_goto (pc := 57) a dL_block_57 (tgt := 61) (by decide) ?_
              refine a_wid 0 0 (by omega) (by omega) ?_
              exact hjj61 1 h

set_option maxRecDepth 100000 in
set_option maxHeartbeats 4000000 in
theorem c_L_member {l : Launch} {D : va_G} {X : XI} {ad : Nat → Nat} (hinj : adI ad) (hl0 : l.stackTraces = false) {p2 : Int} {p3 : Int}  {σ : St} {K : Int → Prop} (h : f_L_member p2 p3 σ K) (sz : Nat) : Met l yL_member (WW (.code yL_member cL_member 5 (some .int))) { frames := 0, cells := 0, slots := 0, locals := 0 } (va_Pc [Value.ref (ad 162), vI p2, vI p3] (WD D X ad σ sz)) (QI D X ad sz (fun r τ => τ = σ ∧ K r)) 0 0 (AA ad sz) := by
  refine aM_start (cc := cL_member) (maxL := 5) (ret := (some .int)) (own := RL) [Value.ref (ad 162), vI p2, vI p3] (by decide) rfl rfl (Nat.le_of_ble_eq_true rfl) hinj hl0 ?_
  intro p e s m below meth c a hr hsz
  subst hsz
  have hts := a.1.2.2.2.2
  have w1 : tyc 162 (0, 32) := ⟨by decide, rfl⟩
  unfold f_L_member at h
  refine a_sub (ls1 := [(0, Value.ref (ad 162)), (1, vI p2), (2, vI p3)]) [0, 1, 2] rfl ?_
  refine a_iconst (pc := 0) a dL_member_0 ?_
  refine a_istore_n (pc := 1) a (ls1 := [(3, vI 0), (0, Value.ref (ad 162)), (1, vI p2), (2, vI p3)]) dL_member_1 rfl (by decide) rfl ?_
  refine a_iconst (pc := 2) a dL_member_2 ?_
  refine a_istore (pc := 3) a (ls1 := [(4, vI 0), (3, vI 0), (0, Value.ref (ad 162)), (1, vI p2), (2, vI p3)]) dL_member_3 (by decide) rfl ?_
  refine a_sub (ls1 := [(0, Value.ref (ad 162)), (1, vI p2), (2, vI p3), (3, vI 0), (4, vI 0)]) [2, 3, 4, 1, 0] rfl ?_
  refine g_wl2 (fun x1 x2 => [(0, Value.ref (ad 162)), (1, vI p2), (2, vI p3), (3, vI x1), (4, vI x2)]) h ?_
  clear h
  intro x1 x2 ag5 hag5 h
  refine a_iload (pc := 5) a 4 dL_member_5 rfl ?_
  refine a_iconst (pc := 7) a dL_member_7 ?_
  refine a_icmp_ge (pc := 8) a h.1 ⟨by decide, by decide⟩ dL_member_8 (tgt := 48) (by decide) (fun hq => ?_) (fun hq => ?_)
  · replace h := h.2.1 hq
    clear hq
    refine a_iload_n (pc := 48) a 3 dL_member_48 rfl rfl ?_
    exact e_i (pc := 49) a hr dL_member_49 ⟨rfl, h⟩
  · replace h := h.2.2 hq
    clear hq
    refine a_iload_n (pc := 11) a 3 dL_member_11 rfl rfl ?_
    refine a_aload_n (pc := 12) a 0 dL_member_12 rfl rfl ?_
    refine a_bipush (pc := 13) a dL_member_13 (by decide) ?_
    refine a_iload (pc := 15) a 4 dL_member_15 rfl ?_
    refine a_imul (pc := 17) a dL_member_17 ?_
    refine a_iconst (pc := 18) a dL_member_18 ?_
    refine a_iadd (pc := 19) a dL_member_19 ?_
    refine a_iald (pc := 20) a (tw hinj w1) (by decide) h.1 dL_member_20 ?_
    replace h := h.2
    refine a_iload_n (pc := 21) a 2 dL_member_21 rfl rfl ?_
    refine a_icmp_ne (pc := 22) a h.1 h.2.1 dL_member_22 (tgt := 39) (by decide) (fun hq => ?_) (fun hq => ?_)
    · replace h := h.2.2.1 hq
      clear hq
      refine a_iconst (pc := 39) a dL_member_39 ?_
      refine a_iadd (pc := 40) a dL_member_40 ?_
      refine a_nm (fun x3 hx => ?_)
      replace h := h x3 hx
      clear hx
      refine a_istore_n (pc := 41) a (ls1 := [(3, vI x3), (0, Value.ref (ad 162)), (1, vI p2), (2, vI p3), (4, vI x2)]) dL_member_41 rfl (by decide) rfl ?_
      refine a_iinc (pc := 42) a (ls1 := [(4, vI (x2 + 1)), (3, vI x3), (0, Value.ref (ad 162)), (1, vI p2), (2, vI p3)]) 4 dL_member_42 rfl (by decide) rfl ?_
      refine a_goto (pc := 45) a dL_member_45 (tgt := 5) (by decide) ?_
      refine a_sub (ls1 := [(0, Value.ref (ad 162)), (1, vI p2), (2, vI p3), (3, vI x3), (4, vI (x2 + 1))]) [2, 3, 4, 1, 0] rfl ?_
      exact hag5 x3 (x2 + 1) h
    · replace h := h.2.2.2 hq
      clear hq
      refine a_iload_n (pc := 25) a 1 dL_member_25 rfl rfl ?_
      refine a_iload (pc := 26) a 4 dL_member_26 rfl ?_
      refine a_ishr (pc := 28) a dL_member_28 ?_
      refine a_iconst (pc := 29) a dL_member_29 ?_
      refine a_iand (pc := 30) a dL_member_30 ?_
      refine a_iconst (pc := 31) a dL_member_31 ?_
      refine a_icmp_ne (pc := 32) a h.1 ⟨by decide, by decide⟩ dL_member_32 (tgt := 39) (by decide) (fun hq => ?_) (fun hq => ?_)
      · replace h := h.2.1 hq
        clear hq
        refine a_iconst (pc := 39) a dL_member_39 ?_
        refine a_iadd (pc := 40) a dL_member_40 ?_
        refine a_nm (fun x4 hx => ?_)
        replace h := h x4 hx
        clear hx
        refine a_istore_n (pc := 41) a (ls1 := [(3, vI x4), (0, Value.ref (ad 162)), (1, vI p2), (2, vI p3), (4, vI x2)]) dL_member_41 rfl (by decide) rfl ?_
        refine a_iinc (pc := 42) a (ls1 := [(4, vI (x2 + 1)), (3, vI x4), (0, Value.ref (ad 162)), (1, vI p2), (2, vI p3)]) 4 dL_member_42 rfl (by decide) rfl ?_
        refine a_goto (pc := 45) a dL_member_45 (tgt := 5) (by decide) ?_
        refine a_sub (ls1 := [(0, Value.ref (ad 162)), (1, vI p2), (2, vI p3), (3, vI x4), (4, vI (x2 + 1))]) [2, 3, 4, 1, 0] rfl ?_
        exact hag5 x4 (x2 + 1) h
      · replace h := h.2.2 hq
        clear hq
        refine a_iconst (pc := 35) a dL_member_35 ?_
        refine a_goto (pc := 36) a dL_member_36 (tgt := 40) (by decide) ?_
        refine a_iadd (pc := 40) a dL_member_40 ?_
        refine a_nm (fun x5 hx => ?_)
        replace h := h x5 hx
        clear hx
        refine a_istore_n (pc := 41) a (ls1 := [(3, vI x5), (0, Value.ref (ad 162)), (1, vI p2), (2, vI p3), (4, vI x2)]) dL_member_41 rfl (by decide) rfl ?_
        refine a_iinc (pc := 42) a (ls1 := [(4, vI (x2 + 1)), (3, vI x5), (0, Value.ref (ad 162)), (1, vI p2), (2, vI p3)]) 4 dL_member_42 rfl (by decide) rfl ?_
        refine a_goto (pc := 45) a dL_member_45 (tgt := 5) (by decide) ?_
        refine a_sub (ls1 := [(0, Value.ref (ad 162)), (1, vI p2), (2, vI p3), (3, vI x5), (4, vI (x2 + 1))]) [2, 3, 4, 1, 0] rfl ?_
        exact hag5 x5 (x2 + 1) h

set_option maxRecDepth 100000 in
set_option maxHeartbeats 4000000 in
theorem c_L_code {l : Launch} {D : va_G} {X : XI} {ad : Nat → Nat} (hinj : adI ad) (hl0 : l.stackTraces = false) {p1 : Int} {p2 : Int} {p3 : Int} {p4 : Int} {p5 : Int}  {σ : St} {K : Int → Prop} (h : f_L_code p1 p2 p3 p4 p5 σ K) (sz : Nat) : Met l yL_code (WW (.code yL_code cL_code 5 (some .int))) { frames := 0, cells := 0, slots := 0, locals := 0 } (va_Pc [vI p1, vI p2, vI p3, vI p4, vI p5] (WD D X ad σ sz)) (QI D X ad sz (fun r τ => τ = σ ∧ K r)) 0 0 (AA ad sz) := by
  refine aM_start (cc := cL_code) (maxL := 5) (ret := (some .int)) (own := RL) [vI p1, vI p2, vI p3, vI p4, vI p5] (by decide) rfl rfl (Nat.le_of_ble_eq_true rfl) hinj hl0 ?_
  intro p e s m below meth c a hr hsz
  subst hsz
  have hts := a.1.2.2.2.2
  unfold f_L_code at h
  refine a_sub (ls1 := [(0, vI p1), (1, vI p2), (2, vI p3), (3, vI p4), (4, vI p5)]) [0, 1, 2, 3, 4] rfl ?_
  refine a_iload_n (pc := 0) a 0 dL_code_0 rfl rfl ?_
  refine a_bipush (pc := 1) a dL_code_1 (by decide) ?_
  refine a_imul (pc := 3) a dL_code_3 ?_
  refine a_iload_n (pc := 4) a 1 dL_code_4 rfl rfl ?_
  refine a_iadd (pc := 5) a dL_code_5 ?_
  refine a_iconst (pc := 6) a dL_code_6 ?_
  refine a_iadd (pc := 7) a dL_code_7 ?_
  refine a_bipush (pc := 8) a dL_code_8 (by decide) ?_
  refine a_imul (pc := 10) a dL_code_10 ?_
  refine a_iload_n (pc := 11) a 2 dL_code_11 rfl rfl ?_
  refine a_iadd (pc := 12) a dL_code_12 ?_
  refine a_iconst (pc := 13) a dL_code_13 ?_
  refine a_iadd (pc := 14) a dL_code_14 ?_
  refine a_bipush (pc := 15) a dL_code_15 (by decide) ?_
  refine a_imul (pc := 17) a dL_code_17 ?_
  refine a_iload_n (pc := 18) a 3 dL_code_18 rfl rfl ?_
  refine a_iadd (pc := 19) a dL_code_19 ?_
  refine a_iconst (pc := 20) a dL_code_20 ?_
  refine a_iadd (pc := 21) a dL_code_21 ?_
  refine a_bipush (pc := 22) a dL_code_22 (by decide) ?_
  refine a_imul (pc := 24) a dL_code_24 ?_
  refine a_iload (pc := 25) a 4 dL_code_25 rfl ?_
  refine a_iadd (pc := 27) a dL_code_27 ?_
  refine a_iconst (pc := 28) a dL_code_28 ?_
  refine a_iadd (pc := 29) a dL_code_29 ?_
  exact e_i (pc := 30) a hr dL_code_30 ⟨rfl, h⟩

set_option maxRecDepth 100000 in
set_option maxHeartbeats 4000000 in
theorem c_L_signs {l : Launch} {D : va_G} {X : XI} {ad : Nat → Nat} (hinj : adI ad) (hl0 : l.stackTraces = false) {p3 : Int} {p4 : Int} {p5 : Int} {p6 : Int}  {σ : St} {K : Int → Prop} (h : f_L_signs p3 p4 p5 p6 σ K) (sz : Nat) : Met l yL_signs (WW (.code yL_signs cL_signs 8 (some .int))) { frames := 1, cells := 0, slots := 0, locals := 24 } (va_Pc [Value.ref (ad 162), Value.ref (ad 163), vI p3, vI p4, vI p5, vI p6] (WD D X ad σ sz)) (QI D X ad sz (fun r τ => τ = σ ∧ K r)) 0 0 (AA ad sz) := by
  refine aM_start (cc := cL_signs) (maxL := 8) (ret := (some .int)) (own := RL) [Value.ref (ad 162), Value.ref (ad 163), vI p3, vI p4, vI p5, vI p6] (by decide) rfl rfl (Nat.le_of_ble_eq_true rfl) hinj hl0 ?_
  intro p e s m below meth c a hr hsz
  subst hsz
  have hts := a.1.2.2.2.2
  have w1 : tyc 162 (0, 32) := ⟨by decide, rfl⟩
  have w2 : tyc 163 (0, 60) := ⟨by decide, rfl⟩
  unfold f_L_signs at h
  refine a_sub (ls1 := [(0, Value.ref (ad 162)), (1, Value.ref (ad 163)), (2, vI p3), (3, vI p4), (4, vI p5), (5, vI p6)]) [0, 1, 2, 3, 4, 5] rfl ?_
  refine a_iconst (pc := 0) a dL_signs_0 ?_
  refine a_istore (pc := 1) a (ls1 := [(6, vI 0), (0, Value.ref (ad 162)), (1, Value.ref (ad 163)), (2, vI p3), (3, vI p4), (4, vI p5), (5, vI p6)]) dL_signs_1 (by decide) rfl ?_
  refine a_iconst (pc := 3) a dL_signs_3 ?_
  refine a_istore (pc := 4) a (ls1 := [(7, vI 0), (6, vI 0), (0, Value.ref (ad 162)), (1, Value.ref (ad 163)), (2, vI p3), (3, vI p4), (4, vI p5), (5, vI p6)]) dL_signs_4 (by decide) rfl ?_
  refine a_sub (ls1 := [(0, Value.ref (ad 162)), (1, Value.ref (ad 163)), (2, vI p3), (3, vI p4), (4, vI p5), (5, vI p6), (6, vI 0), (7, vI 0)]) [2, 3, 4, 5, 6, 7, 1, 0] rfl ?_
  refine g_wl2 (fun x1 x2 => [(0, Value.ref (ad 162)), (1, Value.ref (ad 163)), (2, vI p3), (3, vI p4), (4, vI p5), (5, vI p6), (6, vI x1), (7, vI x2)]) h ?_
  clear h
  intro x1 x2 ag6 hag6 h
  refine a_iload (pc := 6) a 7 dL_signs_6 rfl ?_
  refine a_bipush (pc := 8) a dL_signs_8 (by decide) ?_
  refine a_icmp_ge (pc := 10) a h.1 ⟨by decide, by decide⟩ dL_signs_10 (tgt := 73) (by decide) (fun hq => ?_) (fun hq => ?_)
  · replace h := h.2.1 hq
    clear hq
    refine a_iload (pc := 73) a 6 dL_signs_73 rfl ?_
    exact e_i (pc := 75) a hr dL_signs_75 ⟨rfl, h⟩
  · replace h := h.2.2 hq
    clear hq
    refine a_iload (pc := 13) a 6 dL_signs_13 rfl ?_
    refine a_iload_n (pc := 15) a 2 dL_signs_15 rfl rfl ?_
    refine a_iload (pc := 16) a 7 dL_signs_16 rfl ?_
    refine a_ishr (pc := 18) a dL_signs_18 ?_
    refine a_iconst (pc := 19) a dL_signs_19 ?_
    refine a_iand (pc := 20) a dL_signs_20 ?_
    refine a_iconst (pc := 21) a dL_signs_21 ?_
    refine a_icmp_ne (pc := 22) a h.1 ⟨by decide, by decide⟩ dL_signs_22 (tgt := 63) (by decide) (fun hq => ?_) (fun hq => ?_)
    · replace h := h.2.1 hq
      clear hq
      refine a_iconst (pc := 63) a dL_signs_63 ?_
      refine a_iadd (pc := 64) a dL_signs_64 ?_
      refine a_nm (fun x3 hx => ?_)
      replace h := h x3 hx
      clear hx
      refine a_istore (pc := 65) a (ls1 := [(6, vI x3), (0, Value.ref (ad 162)), (1, Value.ref (ad 163)), (2, vI p3), (3, vI p4), (4, vI p5), (5, vI p6), (7, vI x2)]) dL_signs_65 (by decide) rfl ?_
      refine a_iinc (pc := 67) a (ls1 := [(7, vI (x2 + 1)), (6, vI x3), (0, Value.ref (ad 162)), (1, Value.ref (ad 163)), (2, vI p3), (3, vI p4), (4, vI p5), (5, vI p6)]) 7 dL_signs_67 rfl (by decide) rfl ?_
      refine a_goto (pc := 70) a dL_signs_70 (tgt := 6) (by decide) ?_
      refine a_sub (ls1 := [(0, Value.ref (ad 162)), (1, Value.ref (ad 163)), (2, vI p3), (3, vI p4), (4, vI p5), (5, vI p6), (6, vI x3), (7, vI (x2 + 1))]) [2, 3, 4, 5, 6, 7, 1, 0] rfl ?_
      exact hag6 x3 (x2 + 1) h
    · replace h := h.2.2 hq
      clear hq
      refine a_aload_n (pc := 25) a 1 dL_signs_25 rfl rfl ?_
      refine a_iconst (pc := 26) a dL_signs_26 ?_
      refine a_iload (pc := 27) a 7 dL_signs_27 rfl ?_
      refine a_imul (pc := 29) a dL_signs_29 ?_
      refine a_iald (pc := 30) a (tw hinj w2) (by decide) h.1 dL_signs_30 ?_
      replace h := h.2
      refine a_iload_n (pc := 31) a 3 dL_signs_31 rfl rfl ?_
      refine a_icmp_ne (pc := 32) a h.1 h.2.1 dL_signs_32 (tgt := 63) (by decide) (fun hq => ?_) (fun hq => ?_)
      · replace h := h.2.2.1 hq
        clear hq
        refine a_iconst (pc := 63) a dL_signs_63 ?_
        refine a_iadd (pc := 64) a dL_signs_64 ?_
        refine a_nm (fun x4 hx => ?_)
        replace h := h x4 hx
        clear hx
        refine a_istore (pc := 65) a (ls1 := [(6, vI x4), (0, Value.ref (ad 162)), (1, Value.ref (ad 163)), (2, vI p3), (3, vI p4), (4, vI p5), (5, vI p6), (7, vI x2)]) dL_signs_65 (by decide) rfl ?_
        refine a_iinc (pc := 67) a (ls1 := [(7, vI (x2 + 1)), (6, vI x4), (0, Value.ref (ad 162)), (1, Value.ref (ad 163)), (2, vI p3), (3, vI p4), (4, vI p5), (5, vI p6)]) 7 dL_signs_67 rfl (by decide) rfl ?_
        refine a_goto (pc := 70) a dL_signs_70 (tgt := 6) (by decide) ?_
        refine a_sub (ls1 := [(0, Value.ref (ad 162)), (1, Value.ref (ad 163)), (2, vI p3), (3, vI p4), (4, vI p5), (5, vI p6), (6, vI x4), (7, vI (x2 + 1))]) [2, 3, 4, 5, 6, 7, 1, 0] rfl ?_
        exact hag6 x4 (x2 + 1) h
      · replace h := h.2.2.2 hq
        clear hq
        refine a_aload_n (pc := 35) a 0 dL_signs_35 rfl rfl ?_
        refine a_aload_n (pc := 36) a 1 dL_signs_36 rfl rfl ?_
        refine a_iload (pc := 37) a 7 dL_signs_37 rfl ?_
        refine a_csi (pc := 39) a (As := [Value.ref (ad 162), Value.ref (ad 163), vI x2]) (rest := [vI x1]) (fun sz => c_L_classOf hinj hl0  h sz) (va_cwS 3 hts (gl_S (GL_6 _ (by decide +kernel)) (GL_6 _ (by decide +kernel)) (GL_4 _ (by decide +kernel)) (GL_6 _ (by decide +kernel))) rfl rfl rfl (by decide +kernel) ⟨Nat.le_of_ble_eq_true rfl, Nat.le_of_ble_eq_true rfl⟩) rfl rfl (Nat.le_of_ble_eq_true rfl) ⟨Nat.le_of_ble_eq_true rfl, Nat.le_of_ble_eq_true rfl⟩ dL_signs_39 ?_
        rintro x5 s9 ⟨hs9, h9⟩
        subst s9
        replace h := h9
        clear h9
        refine a_iload (pc := 42) a 4 dL_signs_42 rfl ?_
        refine a_icmp_lt (pc := 44) a h.1 h.2.1 dL_signs_44 (tgt := 63) (by decide) (fun hq => ?_) (fun hq => ?_)
        · replace h := h.2.2.1 hq
          clear hq
          refine a_iconst (pc := 63) a dL_signs_63 ?_
          refine a_iadd (pc := 64) a dL_signs_64 ?_
          refine a_nm (fun x6 hx => ?_)
          replace h := h x6 hx
          clear hx
          refine a_istore (pc := 65) a (ls1 := [(6, vI x6), (0, Value.ref (ad 162)), (1, Value.ref (ad 163)), (2, vI p3), (3, vI p4), (4, vI p5), (5, vI p6), (7, vI x2)]) dL_signs_65 (by decide) rfl ?_
          refine a_iinc (pc := 67) a (ls1 := [(7, vI (x2 + 1)), (6, vI x6), (0, Value.ref (ad 162)), (1, Value.ref (ad 163)), (2, vI p3), (3, vI p4), (4, vI p5), (5, vI p6)]) 7 dL_signs_67 rfl (by decide) rfl ?_
          refine a_goto (pc := 70) a dL_signs_70 (tgt := 6) (by decide) ?_
          refine a_sub (ls1 := [(0, Value.ref (ad 162)), (1, Value.ref (ad 163)), (2, vI p3), (3, vI p4), (4, vI p5), (5, vI p6), (6, vI x6), (7, vI (x2 + 1))]) [2, 3, 4, 5, 6, 7, 1, 0] rfl ?_
          exact hag6 x6 (x2 + 1) h
        · replace h := h.2.2.2 hq
          clear hq
          refine a_aload_n (pc := 47) a 0 dL_signs_47 rfl rfl ?_
          refine a_aload_n (pc := 48) a 1 dL_signs_48 rfl rfl ?_
          refine a_iload (pc := 49) a 7 dL_signs_49 rfl ?_
          refine a_csi (pc := 51) a (As := [Value.ref (ad 162), Value.ref (ad 163), vI x2]) (rest := [vI x1]) (fun sz => c_L_classOf hinj hl0  h sz) (va_cwS 3 hts (gl_S (GL_6 _ (by decide +kernel)) (GL_6 _ (by decide +kernel)) (GL_4 _ (by decide +kernel)) (GL_6 _ (by decide +kernel))) rfl rfl rfl (by decide +kernel) ⟨Nat.le_of_ble_eq_true rfl, Nat.le_of_ble_eq_true rfl⟩) rfl rfl (Nat.le_of_ble_eq_true rfl) ⟨Nat.le_of_ble_eq_true rfl, Nat.le_of_ble_eq_true rfl⟩ dL_signs_51 ?_
          rintro x7 s9 ⟨hs9, h9⟩
          subst s9
          replace h := h9
          clear h9
          refine a_iload (pc := 54) a 5 dL_signs_54 rfl ?_
          refine a_icmp_gt (pc := 56) a h.1 h.2.1 dL_signs_56 (tgt := 63) (by decide) (fun hq => ?_) (fun hq => ?_)
          · replace h := h.2.2.1 hq
            clear hq
            refine a_iconst (pc := 63) a dL_signs_63 ?_
            refine a_iadd (pc := 64) a dL_signs_64 ?_
            refine a_nm (fun x8 hx => ?_)
            replace h := h x8 hx
            clear hx
            refine a_istore (pc := 65) a (ls1 := [(6, vI x8), (0, Value.ref (ad 162)), (1, Value.ref (ad 163)), (2, vI p3), (3, vI p4), (4, vI p5), (5, vI p6), (7, vI x2)]) dL_signs_65 (by decide) rfl ?_
            refine a_iinc (pc := 67) a (ls1 := [(7, vI (x2 + 1)), (6, vI x8), (0, Value.ref (ad 162)), (1, Value.ref (ad 163)), (2, vI p3), (3, vI p4), (4, vI p5), (5, vI p6)]) 7 dL_signs_67 rfl (by decide) rfl ?_
            refine a_goto (pc := 70) a dL_signs_70 (tgt := 6) (by decide) ?_
            refine a_sub (ls1 := [(0, Value.ref (ad 162)), (1, Value.ref (ad 163)), (2, vI p3), (3, vI p4), (4, vI p5), (5, vI p6), (6, vI x8), (7, vI (x2 + 1))]) [2, 3, 4, 5, 6, 7, 1, 0] rfl ?_
            exact hag6 x8 (x2 + 1) h
          · replace h := h.2.2.2 hq
            clear hq
            refine a_iconst (pc := 59) a dL_signs_59 ?_
            refine a_goto (pc := 60) a dL_signs_60 (tgt := 64) (by decide) ?_
            refine a_iadd (pc := 64) a dL_signs_64 ?_
            refine a_nm (fun x9 hx => ?_)
            replace h := h x9 hx
            clear hx
            refine a_istore (pc := 65) a (ls1 := [(6, vI x9), (0, Value.ref (ad 162)), (1, Value.ref (ad 163)), (2, vI p3), (3, vI p4), (4, vI p5), (5, vI p6), (7, vI x2)]) dL_signs_65 (by decide) rfl ?_
            refine a_iinc (pc := 67) a (ls1 := [(7, vI (x2 + 1)), (6, vI x9), (0, Value.ref (ad 162)), (1, Value.ref (ad 163)), (2, vI p3), (3, vI p4), (4, vI p5), (5, vI p6)]) 7 dL_signs_67 rfl (by decide) rfl ?_
            refine a_goto (pc := 70) a dL_signs_70 (tgt := 6) (by decide) ?_
            refine a_sub (ls1 := [(0, Value.ref (ad 162)), (1, Value.ref (ad 163)), (2, vI p3), (3, vI p4), (4, vI p5), (5, vI p6), (6, vI x9), (7, vI (x2 + 1))]) [2, 3, 4, 5, 6, 7, 1, 0] rfl ?_
            exact hag6 x9 (x2 + 1) h

set_option maxRecDepth 100000 in
set_option maxHeartbeats 4000000 in
theorem c_L_linesOf {l : Launch} {D : va_G} {X : XI} {ad : Nat → Nat} (hinj : adI ad) (hl0 : l.stackTraces = false) (hw : nW ad = 166) {p5 : Int} {p6 : Int}  {σ : St} {K : Int → St → Prop} (h : f_L_linesOf p5 p6 σ K) (sz : Nat) : Met l yL_linesOf (WW (.code yL_linesOf cL_linesOf 10 (some .int))) { frames := 2, cells := 1, slots := 12, locals := 51 } (va_Pc [Value.ref (ad 161), Value.ref (ad 162), Value.ref (ad 163), Value.ref (ad 164), vI p5, vI p6] (WD D X ad σ sz)) (QI D X ad sz K) 1 12 (AA ad sz) := by
  refine aM_start (cc := cL_linesOf) (maxL := 10) (ret := (some .int)) (own := RL) [Value.ref (ad 161), Value.ref (ad 162), Value.ref (ad 163), Value.ref (ad 164), vI p5, vI p6] (by decide) rfl rfl (Nat.le_of_ble_eq_true rfl) hinj hl0 ?_
  intro p e s m below meth c a hr hsz
  subst hsz
  have hts := a.1.2.2.2.2
  have w1 : tyc 161 (0, 15) := ⟨by decide, rfl⟩
  have w2 : tyc 162 (0, 32) := ⟨by decide, rfl⟩
  have w3 : tyc 163 (0, 60) := ⟨by decide, rfl⟩
  have w4 : tyc 164 (0, 64) := ⟨by decide, rfl⟩
  have w5 := hts (Cond.arrayClass .int) (List.mem_cons_of_mem _ (GL_1 _ (by decide +kernel)))
  unfold f_L_linesOf at h
  refine a_sub (ls1 := [(0, Value.ref (ad 161)), (1, Value.ref (ad 162)), (2, Value.ref (ad 163)), (3, Value.ref (ad 164)), (4, vI p5), (5, vI p6)]) [0, 1, 2, 3, 4, 5] rfl ?_
  refine a_bipush (pc := 0) a dL_linesOf_0 (by decide) ?_
  refine a_newI (pc := 2) a (N := 166) (n := 12) hw (by decide) (by decide +kernel) rfl (by decide) (fun ad => [(0, Value.ref (ad 161)), (1, Value.ref (ad 162)), (2, Value.ref (ad 163)), (3, Value.ref (ad 164)), (4, vI p5), (5, vI p6)]) (fun _ => rfl) rfl w5 (by decide) (by decide) dL_linesOf_2 ?_
  intro ad a hw td166 hsub hAA
  have hinj := a.2.2.1
  refine a_nmS (fun s1 hx => ?_)
  replace h := h s1 hx
  clear hx
  refine a_astore (pc := 4) a (ls1 := [(6, Value.ref (ad 166)), (0, Value.ref (ad 161)), (1, Value.ref (ad 162)), (2, Value.ref (ad 163)), (3, Value.ref (ad 164)), (4, vI p5), (5, vI p6)]) dL_linesOf_4 (by decide) rfl ?_
  refine a_iconst (pc := 6) a dL_linesOf_6 ?_
  refine a_istore (pc := 7) a (ls1 := [(7, vI 0), (6, Value.ref (ad 166)), (0, Value.ref (ad 161)), (1, Value.ref (ad 162)), (2, Value.ref (ad 163)), (3, Value.ref (ad 164)), (4, vI p5), (5, vI p6)]) dL_linesOf_7 (by decide) rfl ?_
  refine a_iconst (pc := 9) a dL_linesOf_9 ?_
  refine a_istore (pc := 10) a (ls1 := [(8, vI 0), (7, vI 0), (6, Value.ref (ad 166)), (0, Value.ref (ad 161)), (1, Value.ref (ad 162)), (2, Value.ref (ad 163)), (3, Value.ref (ad 164)), (4, vI p5), (5, vI p6)]) dL_linesOf_10 (by decide) rfl ?_
  refine a_sub (ls1 := [(0, Value.ref (ad 161)), (1, Value.ref (ad 162)), (2, Value.ref (ad 163)), (3, Value.ref (ad 164)), (4, vI p5), (5, vI p6), (6, Value.ref (ad 166)), (7, vI 0), (8, vI 0)]) [3, 4, 5, 6, 7, 8, 2, 1, 0] rfl ?_
  refine g_wl2s (fun x2 x3 => [(0, Value.ref (ad 161)), (1, Value.ref (ad 162)), (2, Value.ref (ad 163)), (3, Value.ref (ad 164)), (4, vI p5), (5, vI p6), (6, Value.ref (ad 166)), (7, vI x2), (8, vI x3)]) h ?_
  clear h
  intro x2 x3 s4 ag12 hag12 h
  refine a_iload (pc := 12) a 8 dL_linesOf_12 rfl ?_
  refine a_bipush (pc := 14) a dL_linesOf_14 (by decide) ?_
  refine a_icmp_ge (pc := 16) a h.1 ⟨by decide, by decide⟩ dL_linesOf_16 (tgt := 65) (by decide) (fun hq => ?_) (fun hq => ?_)
  · replace h := h.2.1 hq
    clear hq
    refine a_sub (ls1 := [(0, Value.ref (ad 161)), (1, Value.ref (ad 162)), (2, Value.ref (ad 163)), (3, Value.ref (ad 164)), (4, vI p5), (5, vI p6), (6, Value.ref (ad 166)), (7, vI x2)]) [0, 1, 2, 3, 4, 5, 6, 7] rfl ?_
    refine g_wl1s (fun x5 => [(0, Value.ref (ad 161)), (1, Value.ref (ad 162)), (2, Value.ref (ad 163)), (3, Value.ref (ad 164)), (4, vI p5), (5, vI p6), (6, Value.ref (ad 166)), (7, vI x5)]) h ?_
    clear h
    intro x5 s6 ag65 hag65 h
    refine a_iload (pc := 65) a 7 dL_linesOf_65 rfl ?_
    refine a_aload_n (pc := 67) a 0 dL_linesOf_67 rfl rfl ?_
    refine a_iconst (pc := 68) a dL_linesOf_68 ?_
    refine a_iald (pc := 69) a (tw hinj w1) (by decide) (by decide) dL_linesOf_69 ?_
    refine a_icmp_le (pc := 70) a h.1 h.2.1 dL_linesOf_70 (tgt := 239) (by decide) (fun hq => ?_) (fun hq => ?_)
    · replace h := h.2.2.1 hq
      clear hq
      refine a_iconst (pc := 239) a dL_linesOf_239 ?_
      refine a_istore (pc := 240) a (ls1 := [(8, vI 0), (0, Value.ref (ad 161)), (1, Value.ref (ad 162)), (2, Value.ref (ad 163)), (3, Value.ref (ad 164)), (4, vI p5), (5, vI p6), (6, Value.ref (ad 166)), (7, vI x5)]) dL_linesOf_240 (by decide) rfl ?_
      refine a_sub (ls1 := [(1, Value.ref (ad 162)), (3, Value.ref (ad 164)), (4, vI p5), (5, vI p6), (6, Value.ref (ad 166)), (7, vI x5), (8, vI 0)]) [2, 4, 5, 6, 7, 8, 0] rfl ?_
      refine g_wl1s (fun x7 => [(1, Value.ref (ad 162)), (3, Value.ref (ad 164)), (4, vI p5), (5, vI p6), (6, Value.ref (ad 166)), (7, vI x5), (8, vI x7)]) h ?_
      clear h
      intro x7 s8 ag242 hag242 h
      refine a_iload (pc := 242) a 6 dL_linesOf_242 rfl ?_
      refine a_iload (pc := 244) a 5 dL_linesOf_244 rfl ?_
      refine a_icmp_ge (pc := 246) a h.1 h.2.1 dL_linesOf_246 (tgt := 293) (by decide) (fun hq => ?_) (fun hq => ?_)
      · replace h := h.2.2.1 hq
        clear hq
        refine a_iload (pc := 293) a 5 dL_linesOf_293 rfl ?_
        refine a_wid 1 12 (by omega) (by omega) ?_
        exact eA_i (pc := 295) a hsub hAA hr dL_linesOf_295 h
      · replace h := h.2.2.2 hq
        clear hq
        refine a_aload_n (pc := 249) a 1 dL_linesOf_249 rfl rfl ?_
        refine a_iload (pc := 250) a 2 dL_linesOf_250 rfl ?_
        refine a_iload (pc := 252) a 6 dL_linesOf_252 rfl ?_
        refine a_iadd (pc := 254) a dL_linesOf_254 ?_
        refine a_iconst (pc := 255) a dL_linesOf_255 ?_
        refine a_iload (pc := 256) a 3 dL_linesOf_256 rfl ?_
        refine a_aload_n (pc := 258) a 0 dL_linesOf_258 rfl rfl ?_
        refine a_bipush (pc := 259) a dL_linesOf_259 (by decide) ?_
        refine a_iload (pc := 261) a 3 dL_linesOf_261 rfl ?_
        refine a_imul (pc := 263) a dL_linesOf_263 ?_
        refine a_iconst (pc := 264) a dL_linesOf_264 ?_
        refine a_iadd (pc := 265) a dL_linesOf_265 ?_
        refine a_iald (pc := 266) a (tw hinj w2) (by decide) h.1 dL_linesOf_266 ?_
        replace h := h.2
        refine a_aload (pc := 267) a 4 dL_linesOf_267 rfl ?_
        refine a_iconst (pc := 269) a dL_linesOf_269 ?_
        refine a_iload (pc := 270) a 6 dL_linesOf_270 rfl ?_
        refine a_imul (pc := 272) a dL_linesOf_272 ?_
        refine a_iald (pc := 273) a td166 (by decide) h.1 dL_linesOf_273 ?_
        replace h := h.2
        refine a_aload (pc := 274) a 4 dL_linesOf_274 rfl ?_
        refine a_iconst (pc := 276) a dL_linesOf_276 ?_
        refine a_iload (pc := 277) a 6 dL_linesOf_277 rfl ?_
        refine a_imul (pc := 279) a dL_linesOf_279 ?_
        refine a_iconst (pc := 280) a dL_linesOf_280 ?_
        refine a_iadd (pc := 281) a dL_linesOf_281 ?_
        refine a_iald (pc := 282) a td166 (by decide) h.1 dL_linesOf_282 ?_
        replace h := h.2
        refine a_csi (pc := 283) a (As := [vI 0, vI p6, vI (s8 162 ((8 * p6) + 1)), vI (s8 166 (2 * x7)), vI (s8 166 ((2 * x7) + 1))]) (rest := [vI (p5 + x7), Value.ref (ad 164)]) (fun sz => c_L_code hinj hl0  h sz) (va_cwS 5 hts (gl_S (GL_6 _ (by decide +kernel)) (GL_6 _ (by decide +kernel)) (GL_4 _ (by decide +kernel)) (GL_6 _ (by decide +kernel))) rfl rfl rfl (by decide +kernel) ⟨Nat.le_of_ble_eq_true rfl, Nat.le_of_ble_eq_true rfl⟩) rfl rfl (Nat.le_of_ble_eq_true rfl) ⟨Nat.le_of_ble_eq_true rfl, Nat.le_of_ble_eq_true rfl⟩ dL_linesOf_283 ?_
        rintro x9 s9 ⟨hs9, h9⟩
        subst s9
        replace h := h9
        clear h9
        refine a_iast (pc := 286) a (tw hinj w4) (by decide) h.1 dL_linesOf_286 ?_
        replace h := h.2
        refine a_nmS (fun s10 hx => ?_)
        replace h := h s10 hx
        clear hx
        refine a_iinc (pc := 287) a (ls1 := [(8, vI (x7 + 1)), (1, Value.ref (ad 162)), (3, Value.ref (ad 164)), (4, vI p5), (5, vI p6), (6, Value.ref (ad 166)), (7, vI x5)]) 6 dL_linesOf_287 rfl (by decide) rfl ?_
        refine a_goto (pc := 290) a dL_linesOf_290 (tgt := 242) (by decide) ?_
        refine a_sub (ls1 := [(1, Value.ref (ad 162)), (3, Value.ref (ad 164)), (4, vI p5), (5, vI p6), (6, Value.ref (ad 166)), (7, vI x5), (8, vI (x7 + 1))]) [1, 2, 3, 4, 5, 6, 0] rfl ?_
        exact hag242 (x7 + 1) s10 h
    · replace h := h.2.2.2 hq
      clear hq
      refine a_iload (pc := 73) a 7 dL_linesOf_73 rfl ?_
      refine a_iconst (pc := 75) a dL_linesOf_75 ?_
      refine a_isub (pc := 76) a dL_linesOf_76 ?_
      refine a_nm (fun x11 hx => ?_)
      replace h := h x11 hx
      clear hx
      refine a_istore (pc := 77) a (ls1 := [(8, vI x11), (0, Value.ref (ad 161)), (1, Value.ref (ad 162)), (2, Value.ref (ad 163)), (3, Value.ref (ad 164)), (4, vI p5), (5, vI p6), (6, Value.ref (ad 166)), (7, vI x5)]) dL_linesOf_77 (by decide) rfl ?_
      refine a_iload (pc := 79) a 8 dL_linesOf_79 rfl ?_
      refine a_iconst (pc := 81) a dL_linesOf_81 ?_
      refine a_isub (pc := 82) a dL_linesOf_82 ?_
      refine a_nm (fun x12 hx => ?_)
      replace h := h x12 hx
      clear hx
      refine a_istore (pc := 83) a (ls1 := [(9, vI x12), (8, vI x11), (0, Value.ref (ad 161)), (1, Value.ref (ad 162)), (2, Value.ref (ad 163)), (3, Value.ref (ad 164)), (4, vI p5), (5, vI p6), (6, Value.ref (ad 166)), (7, vI x5)]) dL_linesOf_83 (by decide) rfl ?_
      refine a_sub (ls1 := [(0, Value.ref (ad 161)), (1, Value.ref (ad 162)), (2, Value.ref (ad 163)), (3, Value.ref (ad 164)), (4, vI p5), (5, vI p6), (6, Value.ref (ad 166)), (7, vI x5), (8, vI x11), (9, vI x12)]) [2, 3, 4, 5, 6, 7, 8, 9, 1, 0] rfl ?_
      refine g_wl2 (fun x13 x14 => [(0, Value.ref (ad 161)), (1, Value.ref (ad 162)), (2, Value.ref (ad 163)), (3, Value.ref (ad 164)), (4, vI p5), (5, vI p6), (6, Value.ref (ad 166)), (7, vI x5), (8, vI x13), (9, vI x14)]) h ?_
      clear h
      intro x13 x14 ag85 hag85 h
      refine a_iload (pc := 85) a 9 dL_linesOf_85 rfl ?_
      refine a_if_lt (pc := 87) a h.1 dL_linesOf_87 (tgt := 160) (by decide) (fun hq => ?_) (fun hq => ?_)
      · replace h := h.2.1 hq
        clear hq
        refine a_aload (pc := 160) a 6 dL_linesOf_160 rfl ?_
        refine a_iconst (pc := 162) a dL_linesOf_162 ?_
        refine a_iload (pc := 163) a 8 dL_linesOf_163 rfl ?_
        refine a_imul (pc := 165) a dL_linesOf_165 ?_
        refine a_iconst (pc := 166) a dL_linesOf_166 ?_
        refine a_iadd (pc := 167) a dL_linesOf_167 ?_
        refine a_aload (pc := 168) a 6 dL_linesOf_168 rfl ?_
        refine a_iconst (pc := 170) a dL_linesOf_170 ?_
        refine a_iload (pc := 171) a 8 dL_linesOf_171 rfl ?_
        refine a_imul (pc := 173) a dL_linesOf_173 ?_
        refine a_iconst (pc := 174) a dL_linesOf_174 ?_
        refine a_iadd (pc := 175) a dL_linesOf_175 ?_
        refine a_iald (pc := 176) a td166 (by decide) h.1 dL_linesOf_176 ?_
        replace h := h.2
        refine a_iast (pc := 177) a td166 (by decide) h.1 dL_linesOf_177 ?_
        replace h := h.2
        refine a_nmS (fun s15 hx => ?_)
        replace h := h s15 hx
        clear hx
        refine a_iload (pc := 178) a 8 dL_linesOf_178 rfl ?_
        refine a_iconst (pc := 180) a dL_linesOf_180 ?_
        refine a_iadd (pc := 181) a dL_linesOf_181 ?_
        refine a_nm (fun x16 hx => ?_)
        replace h := h x16 hx
        clear hx
        refine a_istore (pc := 182) a (ls1 := [(9, vI x16), (0, Value.ref (ad 161)), (1, Value.ref (ad 162)), (2, Value.ref (ad 163)), (3, Value.ref (ad 164)), (4, vI p5), (5, vI p6), (6, Value.ref (ad 166)), (7, vI x5), (8, vI x13)]) dL_linesOf_182 (by decide) rfl ?_
        refine a_sub (ls1 := [(0, Value.ref (ad 161)), (1, Value.ref (ad 162)), (2, Value.ref (ad 163)), (3, Value.ref (ad 164)), (4, vI p5), (5, vI p6), (6, Value.ref (ad 166)), (7, vI x5), (9, vI x16)]) [1, 2, 3, 4, 5, 6, 7, 8, 0] rfl ?_
        refine g_wl1s (fun x17 => [(0, Value.ref (ad 161)), (1, Value.ref (ad 162)), (2, Value.ref (ad 163)), (3, Value.ref (ad 164)), (4, vI p5), (5, vI p6), (6, Value.ref (ad 166)), (7, vI x5), (9, vI x17)]) h ?_
        clear h
        intro x17 s18 ag184 hag184 h
        refine a_iload (pc := 184) a 8 dL_linesOf_184 rfl ?_
        refine a_iconst (pc := 186) a dL_linesOf_186 ?_
        refine a_iadd (pc := 187) a dL_linesOf_187 ?_
        refine a_iload (pc := 188) a 7 dL_linesOf_188 rfl ?_
        refine a_icmp_ge (pc := 190) a h.1 h.2.1 dL_linesOf_190 (tgt := 233) (by decide) (fun hq => ?_) (fun hq => ?_)
        · replace h := h.2.2.1 hq
          clear hq
          refine a_iinc (pc := 233) a (ls1 := [(7, vI (x5 + (-1))), (0, Value.ref (ad 161)), (1, Value.ref (ad 162)), (2, Value.ref (ad 163)), (3, Value.ref (ad 164)), (4, vI p5), (5, vI p6), (6, Value.ref (ad 166)), (9, vI x17)]) 7 dL_linesOf_233 rfl (by decide) rfl ?_
          refine a_goto (pc := 236) a dL_linesOf_236 (tgt := 65) (by decide) ?_
          refine a_sub (ls1 := [(0, Value.ref (ad 161)), (1, Value.ref (ad 162)), (2, Value.ref (ad 163)), (3, Value.ref (ad 164)), (4, vI p5), (5, vI p6), (6, Value.ref (ad 166)), (7, vI (x5 + (-1)))]) [1, 2, 3, 4, 5, 6, 7, 0] rfl ?_
          exact hag65 (x5 + (-1)) s18 h
        · replace h := h.2.2.2 hq
          clear hq
          refine a_aload (pc := 193) a 6 dL_linesOf_193 rfl ?_
          refine a_iconst (pc := 195) a dL_linesOf_195 ?_
          refine a_iload (pc := 196) a 8 dL_linesOf_196 rfl ?_
          refine a_imul (pc := 198) a dL_linesOf_198 ?_
          refine a_aload (pc := 199) a 6 dL_linesOf_199 rfl ?_
          refine a_iconst (pc := 201) a dL_linesOf_201 ?_
          refine a_iload (pc := 202) a 8 dL_linesOf_202 rfl ?_
          refine a_imul (pc := 204) a dL_linesOf_204 ?_
          refine a_iconst (pc := 205) a dL_linesOf_205 ?_
          refine a_iadd (pc := 206) a dL_linesOf_206 ?_
          refine a_iald (pc := 207) a td166 (by decide) h.1 dL_linesOf_207 ?_
          replace h := h.2
          refine a_iast (pc := 208) a td166 (by decide) h.1 dL_linesOf_208 ?_
          replace h := h.2
          refine a_nmS (fun s19 hx => ?_)
          replace h := h s19 hx
          clear hx
          refine a_aload (pc := 209) a 6 dL_linesOf_209 rfl ?_
          refine a_iconst (pc := 211) a dL_linesOf_211 ?_
          refine a_iload (pc := 212) a 8 dL_linesOf_212 rfl ?_
          refine a_imul (pc := 214) a dL_linesOf_214 ?_
          refine a_iconst (pc := 215) a dL_linesOf_215 ?_
          refine a_iadd (pc := 216) a dL_linesOf_216 ?_
          refine a_aload (pc := 217) a 6 dL_linesOf_217 rfl ?_
          refine a_iconst (pc := 219) a dL_linesOf_219 ?_
          refine a_iload (pc := 220) a 8 dL_linesOf_220 rfl ?_
          refine a_imul (pc := 222) a dL_linesOf_222 ?_
          refine a_iconst (pc := 223) a dL_linesOf_223 ?_
          refine a_iadd (pc := 224) a dL_linesOf_224 ?_
          refine a_iald (pc := 225) a td166 (by decide) h.1 dL_linesOf_225 ?_
          replace h := h.2
          refine a_iast (pc := 226) a td166 (by decide) h.1 dL_linesOf_226 ?_
          replace h := h.2
          refine a_nmS (fun s20 hx => ?_)
          replace h := h s20 hx
          clear hx
          refine a_iinc (pc := 227) a (ls1 := [(9, vI (x17 + 1)), (0, Value.ref (ad 161)), (1, Value.ref (ad 162)), (2, Value.ref (ad 163)), (3, Value.ref (ad 164)), (4, vI p5), (5, vI p6), (6, Value.ref (ad 166)), (7, vI x5)]) 8 dL_linesOf_227 rfl (by decide) rfl ?_
          refine a_goto (pc := 230) a dL_linesOf_230 (tgt := 184) (by decide) ?_
          refine a_sub (ls1 := [(0, Value.ref (ad 161)), (1, Value.ref (ad 162)), (2, Value.ref (ad 163)), (3, Value.ref (ad 164)), (4, vI p5), (5, vI p6), (6, Value.ref (ad 166)), (7, vI x5), (9, vI (x17 + 1))]) [1, 2, 3, 4, 5, 6, 7, 8, 0] rfl ?_
          exact hag184 (x17 + 1) s20 h
      · replace h := h.2.2 hq
        clear hq
        refine a_aload_n (pc := 90) a 1 dL_linesOf_90 rfl rfl ?_
        refine a_aload_n (pc := 91) a 2 dL_linesOf_91 rfl rfl ?_
        refine a_aload_n (pc := 92) a 3 dL_linesOf_92 rfl rfl ?_
        refine a_iconst (pc := 93) a dL_linesOf_93 ?_
        refine a_iald (pc := 94) a (tw hinj w4) (by decide) (by decide) dL_linesOf_94 ?_
        refine a_iload (pc := 95) a 5 dL_linesOf_95 rfl ?_
        refine a_aload (pc := 97) a 6 dL_linesOf_97 rfl ?_
        refine a_iconst (pc := 99) a dL_linesOf_99 ?_
        refine a_iload (pc := 100) a 9 dL_linesOf_100 rfl ?_
        refine a_imul (pc := 102) a dL_linesOf_102 ?_
        refine a_iald (pc := 103) a td166 (by decide) h.1 dL_linesOf_103 ?_
        replace h := h.2
        refine a_aload (pc := 104) a 6 dL_linesOf_104 rfl ?_
        refine a_iconst (pc := 106) a dL_linesOf_106 ?_
        refine a_iload (pc := 107) a 9 dL_linesOf_107 rfl ?_
        refine a_imul (pc := 109) a dL_linesOf_109 ?_
        refine a_iconst (pc := 110) a dL_linesOf_110 ?_
        refine a_iadd (pc := 111) a dL_linesOf_111 ?_
        refine a_iald (pc := 112) a td166 (by decide) h.1 dL_linesOf_112 ?_
        replace h := h.2
        refine a_csi (pc := 113) a (As := [Value.ref (ad 162), Value.ref (ad 163), vI (s6 164 3), vI p6, vI (s6 166 (2 * x14)), vI (s6 166 ((2 * x14) + 3))]) (rest := []) (fun sz => c_L_signs hinj hl0  h sz) (va_cwS 6 hts (gl_S (GL_6 _ (by decide +kernel)) (GL_6 _ (by decide +kernel)) (GL_4 _ (by decide +kernel)) (GL_6 _ (by decide +kernel))) rfl rfl rfl (by decide +kernel) ⟨Nat.le_of_ble_eq_true rfl, Nat.le_of_ble_eq_true rfl⟩) rfl rfl (Nat.le_of_ble_eq_true rfl) ⟨Nat.le_of_ble_eq_true rfl, Nat.le_of_ble_eq_true rfl⟩ dL_linesOf_113 ?_
        rintro x21 s9 ⟨hs9, h9⟩
        subst s9
        replace h := h9
        clear h9
        refine a_aload_n (pc := 116) a 1 dL_linesOf_116 rfl rfl ?_
        refine a_aload_n (pc := 117) a 2 dL_linesOf_117 rfl rfl ?_
        refine a_aload_n (pc := 118) a 3 dL_linesOf_118 rfl rfl ?_
        refine a_iconst (pc := 119) a dL_linesOf_119 ?_
        refine a_iald (pc := 120) a (tw hinj w4) (by decide) (by decide) dL_linesOf_120 ?_
        refine a_iload (pc := 121) a 5 dL_linesOf_121 rfl ?_
        refine a_aload (pc := 123) a 6 dL_linesOf_123 rfl ?_
        refine a_iconst (pc := 125) a dL_linesOf_125 ?_
        refine a_iload (pc := 126) a 8 dL_linesOf_126 rfl ?_
        refine a_imul (pc := 128) a dL_linesOf_128 ?_
        refine a_iald (pc := 129) a td166 (by decide) h.1 dL_linesOf_129 ?_
        replace h := h.2
        refine a_aload (pc := 130) a 6 dL_linesOf_130 rfl ?_
        refine a_iconst (pc := 132) a dL_linesOf_132 ?_
        refine a_iload (pc := 133) a 8 dL_linesOf_133 rfl ?_
        refine a_imul (pc := 135) a dL_linesOf_135 ?_
        refine a_iconst (pc := 136) a dL_linesOf_136 ?_
        refine a_iadd (pc := 137) a dL_linesOf_137 ?_
        refine a_iald (pc := 138) a td166 (by decide) h.1 dL_linesOf_138 ?_
        replace h := h.2
        refine a_csi (pc := 139) a (As := [Value.ref (ad 162), Value.ref (ad 163), vI (s6 164 3), vI p6, vI (s6 166 (2 * x13)), vI (s6 166 ((2 * x13) + 3))]) (rest := [vI x21]) (fun sz => c_L_signs hinj hl0  h sz) (va_cwS 6 hts (gl_S (GL_6 _ (by decide +kernel)) (GL_6 _ (by decide +kernel)) (GL_4 _ (by decide +kernel)) (GL_6 _ (by decide +kernel))) rfl rfl rfl (by decide +kernel) ⟨Nat.le_of_ble_eq_true rfl, Nat.le_of_ble_eq_true rfl⟩) rfl rfl (Nat.le_of_ble_eq_true rfl) ⟨Nat.le_of_ble_eq_true rfl, Nat.le_of_ble_eq_true rfl⟩ dL_linesOf_139 ?_
        rintro x22 s9 ⟨hs9, h9⟩
        subst s9
        replace h := h9
        clear h9
        refine a_icmp_gt (pc := 142) a h.1 h.2.1 dL_linesOf_142 (tgt := 150) (by decide) (fun hq => ?_) (fun hq => ?_)
        · replace h := h.2.2.1 hq
          clear hq
          refine a_iload (pc := 150) a 8 dL_linesOf_150 rfl ?_
          refine a_istore (pc := 152) a (ls1 := [(8, vI x13), (0, Value.ref (ad 161)), (1, Value.ref (ad 162)), (2, Value.ref (ad 163)), (3, Value.ref (ad 164)), (4, vI p5), (5, vI p6), (6, Value.ref (ad 166)), (7, vI x5), (9, vI x14)]) dL_linesOf_152 (by decide) rfl ?_
          refine a_iinc (pc := 154) a (ls1 := [(9, vI (x14 + (-1))), (8, vI x13), (0, Value.ref (ad 161)), (1, Value.ref (ad 162)), (2, Value.ref (ad 163)), (3, Value.ref (ad 164)), (4, vI p5), (5, vI p6), (6, Value.ref (ad 166)), (7, vI x5)]) 9 dL_linesOf_154 rfl (by decide) rfl ?_
          refine a_goto (pc := 157) a dL_linesOf_157 (tgt := 85) (by decide) ?_
          refine a_sub (ls1 := [(0, Value.ref (ad 161)), (1, Value.ref (ad 162)), (2, Value.ref (ad 163)), (3, Value.ref (ad 164)), (4, vI p5), (5, vI p6), (6, Value.ref (ad 166)), (7, vI x5), (8, vI x13), (9, vI (x14 + (-1)))]) [2, 3, 4, 5, 6, 7, 8, 9, 1, 0] rfl ?_
          exact hag85 x13 (x14 + (-1)) h
        · replace h := h.2.2.2 hq
          clear hq
          refine a_iload (pc := 145) a 9 dL_linesOf_145 rfl ?_
          refine a_goto (pc := 147) a dL_linesOf_147 (tgt := 152) (by decide) ?_
          refine a_istore (pc := 152) a (ls1 := [(8, vI x14), (0, Value.ref (ad 161)), (1, Value.ref (ad 162)), (2, Value.ref (ad 163)), (3, Value.ref (ad 164)), (4, vI p5), (5, vI p6), (6, Value.ref (ad 166)), (7, vI x5), (9, vI x14)]) dL_linesOf_152 (by decide) rfl ?_
          refine a_iinc (pc := 154) a (ls1 := [(9, vI (x14 + (-1))), (8, vI x14), (0, Value.ref (ad 161)), (1, Value.ref (ad 162)), (2, Value.ref (ad 163)), (3, Value.ref (ad 164)), (4, vI p5), (5, vI p6), (6, Value.ref (ad 166)), (7, vI x5)]) 9 dL_linesOf_154 rfl (by decide) rfl ?_
          refine a_goto (pc := 157) a dL_linesOf_157 (tgt := 85) (by decide) ?_
          refine a_sub (ls1 := [(0, Value.ref (ad 161)), (1, Value.ref (ad 162)), (2, Value.ref (ad 163)), (3, Value.ref (ad 164)), (4, vI p5), (5, vI p6), (6, Value.ref (ad 166)), (7, vI x5), (8, vI x14), (9, vI (x14 + (-1)))]) [2, 3, 4, 5, 6, 7, 8, 9, 1, 0] rfl ?_
          exact hag85 x14 (x14 + (-1)) h
  · replace h := h.2.2 hq
    clear hq
    refine a_aload_n (pc := 19) a 1 dL_linesOf_19 rfl rfl ?_
    refine a_aload_n (pc := 20) a 2 dL_linesOf_20 rfl rfl ?_
    refine a_aload_n (pc := 21) a 3 dL_linesOf_21 rfl rfl ?_
    refine a_iconst (pc := 22) a dL_linesOf_22 ?_
    refine a_iald (pc := 23) a (tw hinj w4) (by decide) (by decide) dL_linesOf_23 ?_
    refine a_iload (pc := 24) a 5 dL_linesOf_24 rfl ?_
    refine a_iload (pc := 26) a 8 dL_linesOf_26 rfl ?_
    refine a_iload (pc := 28) a 8 dL_linesOf_28 rfl ?_
    refine a_csi (pc := 30) a (As := [Value.ref (ad 162), Value.ref (ad 163), vI (s4 164 3), vI p6, vI x3, vI x3]) (rest := []) (fun sz => c_L_signs hinj hl0  h sz) (va_cwS 6 hts (gl_S (GL_6 _ (by decide +kernel)) (GL_6 _ (by decide +kernel)) (GL_4 _ (by decide +kernel)) (GL_6 _ (by decide +kernel))) rfl rfl rfl (by decide +kernel) ⟨Nat.le_of_ble_eq_true rfl, Nat.le_of_ble_eq_true rfl⟩) rfl rfl (Nat.le_of_ble_eq_true rfl) ⟨Nat.le_of_ble_eq_true rfl, Nat.le_of_ble_eq_true rfl⟩ dL_linesOf_30 ?_
    rintro x23 s9 ⟨hs9, h9⟩
    subst s9
    replace h := h9
    clear h9
    refine a_if_le (pc := 33) a h.1 dL_linesOf_33 (tgt := 59) (by decide) (fun hq => ?_) (fun hq => ?_)
    · replace h := h.2.1 hq
      clear hq
      refine a_iinc (pc := 59) a (ls1 := [(8, vI (x3 + 1)), (0, Value.ref (ad 161)), (1, Value.ref (ad 162)), (2, Value.ref (ad 163)), (3, Value.ref (ad 164)), (4, vI p5), (5, vI p6), (6, Value.ref (ad 166)), (7, vI x2)]) 8 dL_linesOf_59 rfl (by decide) rfl ?_
      refine a_goto (pc := 62) a dL_linesOf_62 (tgt := 12) (by decide) ?_
      refine a_sub (ls1 := [(0, Value.ref (ad 161)), (1, Value.ref (ad 162)), (2, Value.ref (ad 163)), (3, Value.ref (ad 164)), (4, vI p5), (5, vI p6), (6, Value.ref (ad 166)), (7, vI x2), (8, vI (x3 + 1))]) [1, 2, 3, 4, 5, 6, 7, 8, 0] rfl ?_
      exact hag12 x2 (x3 + 1) s4 h
    · replace h := h.2.2 hq
      clear hq
      refine a_aload (pc := 36) a 6 dL_linesOf_36 rfl ?_
      refine a_iconst (pc := 38) a dL_linesOf_38 ?_
      refine a_iload (pc := 39) a 7 dL_linesOf_39 rfl ?_
      refine a_imul (pc := 41) a dL_linesOf_41 ?_
      refine a_iload (pc := 42) a 8 dL_linesOf_42 rfl ?_
      refine a_iast (pc := 44) a td166 (by decide) h.1 dL_linesOf_44 ?_
      replace h := h.2
      refine a_nmS (fun s24 hx => ?_)
      replace h := h s24 hx
      clear hx
      refine a_aload (pc := 45) a 6 dL_linesOf_45 rfl ?_
      refine a_iconst (pc := 47) a dL_linesOf_47 ?_
      refine a_iload (pc := 48) a 7 dL_linesOf_48 rfl ?_
      refine a_imul (pc := 50) a dL_linesOf_50 ?_
      refine a_iconst (pc := 51) a dL_linesOf_51 ?_
      refine a_iadd (pc := 52) a dL_linesOf_52 ?_
      refine a_iload (pc := 53) a 8 dL_linesOf_53 rfl ?_
      refine a_iast (pc := 55) a td166 (by decide) h.1 dL_linesOf_55 ?_
      replace h := h.2
      refine a_nmS (fun s25 hx => ?_)
      replace h := h s25 hx
      clear hx
      refine a_iinc (pc := 56) a (ls1 := [(7, vI (x2 + 1)), (0, Value.ref (ad 161)), (1, Value.ref (ad 162)), (2, Value.ref (ad 163)), (3, Value.ref (ad 164)), (4, vI p5), (5, vI p6), (6, Value.ref (ad 166)), (8, vI x3)]) 7 dL_linesOf_56 rfl (by decide) rfl ?_
      refine a_iinc (pc := 59) a (ls1 := [(8, vI (x3 + 1)), (7, vI (x2 + 1)), (0, Value.ref (ad 161)), (1, Value.ref (ad 162)), (2, Value.ref (ad 163)), (3, Value.ref (ad 164)), (4, vI p5), (5, vI p6), (6, Value.ref (ad 166))]) 8 dL_linesOf_59 rfl (by decide) rfl ?_
      refine a_goto (pc := 62) a dL_linesOf_62 (tgt := 12) (by decide) ?_
      refine a_sub (ls1 := [(0, Value.ref (ad 161)), (1, Value.ref (ad 162)), (2, Value.ref (ad 163)), (3, Value.ref (ad 164)), (4, vI p5), (5, vI p6), (6, Value.ref (ad 166)), (7, vI (x2 + 1)), (8, vI (x3 + 1))]) [2, 3, 4, 5, 6, 7, 8, 1, 0] rfl ?_
      exact hag12 (x2 + 1) (x3 + 1) s25 h

set_option maxRecDepth 100000 in
set_option maxHeartbeats 4000000 in
theorem c_L_lists {l : Launch} {D : va_G} {X : XI} {ad : Nat → Nat} (hinj : adI ad) (hl0 : l.stackTraces = false) (hw : nW ad = 166)   {σ : St} {K : St → Prop} (h : f_L_lists σ K) (sz : Nat) : Met l yL_lists (WW (.code yL_lists cL_lists 13 none)) { frames := 3, cells := 5, slots := 60, locals := 80 } (va_Pc [Value.ref (ad 161), Value.ref (ad 162), Value.ref (ad 163), Value.ref (ad 164)] (WD D X ad σ sz)) (QV D X ad sz K) 5 60 (AA ad sz) := by
  refine aM_start (cc := cL_lists) (maxL := 13) (ret := none) (own := RL) [Value.ref (ad 161), Value.ref (ad 162), Value.ref (ad 163), Value.ref (ad 164)] (by decide) rfl rfl (Nat.le_of_ble_eq_true rfl) hinj hl0 ?_
  intro p e s m below meth c a hr hsz
  subst hsz
  have hts := a.1.2.2.2.2
  have w1 : tyc 161 (0, 15) := ⟨by decide, rfl⟩
  have w2 : tyc 162 (0, 32) := ⟨by decide, rfl⟩
  have w3 : tyc 163 (0, 60) := ⟨by decide, rfl⟩
  have w4 : tyc 164 (0, 64) := ⟨by decide, rfl⟩
  unfold f_L_lists at h
  refine a_sub (ls1 := [(0, Value.ref (ad 161)), (1, Value.ref (ad 162)), (2, Value.ref (ad 163)), (3, Value.ref (ad 164))]) [0, 1, 2, 3] rfl ?_
  refine a_iconst (pc := 0) a dL_lists_0 ?_
  refine a_istore (pc := 1) a (ls1 := [(4, vI 0), (0, Value.ref (ad 161)), (1, Value.ref (ad 162)), (2, Value.ref (ad 163)), (3, Value.ref (ad 164))]) dL_lists_1 (by decide) rfl ?_
  refine a_iconst (pc := 3) a dL_lists_3 ?_
  refine a_istore (pc := 4) a (ls1 := [(5, vI 0), (4, vI 0), (0, Value.ref (ad 161)), (1, Value.ref (ad 162)), (2, Value.ref (ad 163)), (3, Value.ref (ad 164))]) dL_lists_4 (by decide) rfl ?_
  refine a_sub (ls1 := [(0, Value.ref (ad 161)), (1, Value.ref (ad 162)), (2, Value.ref (ad 163)), (3, Value.ref (ad 164)), (4, vI 0), (5, vI 0)]) [2, 3, 4, 5, 1, 0] rfl ?_
  refine g_wl2 (fun x1 x2 => [(0, Value.ref (ad 161)), (1, Value.ref (ad 162)), (2, Value.ref (ad 163)), (3, Value.ref (ad 164)), (4, vI x1), (5, vI x2)]) h ?_
  clear h
  intro x1 x2 ag6 hag6 h
  refine a_iload (pc := 6) a 5 dL_lists_6 rfl ?_
  refine a_bipush (pc := 8) a dL_lists_8 (by decide) ?_
  refine a_icmp_ge (pc := 10) a h.1 ⟨by decide, by decide⟩ dL_lists_10 (tgt := 48) (by decide) (fun hq => ?_) (fun hq => ?_)
  · replace h := h.2.1 hq
    clear hq
    refine a_aload_n (pc := 48) a 3 dL_lists_48 rfl rfl ?_
    refine a_iconst (pc := 49) a dL_lists_49 ?_
    refine a_iconst (pc := 50) a dL_lists_50 ?_
    refine a_iast (pc := 51) a (tw hinj w4) (by decide) (by decide) dL_lists_51 ?_
    refine a_nmS (fun s3 hx => ?_)
    replace h := h s3 hx
    clear hx
    refine a_iconst (pc := 52) a dL_lists_52 ?_
    refine a_istore (pc := 53) a (ls1 := [(5, vI (-1)), (0, Value.ref (ad 161)), (1, Value.ref (ad 162)), (2, Value.ref (ad 163)), (3, Value.ref (ad 164)), (4, vI x1)]) dL_lists_53 (by decide) rfl ?_
    refine a_iconst (pc := 55) a dL_lists_55 ?_
    refine a_istore (pc := 56) a (ls1 := [(6, vI (-1)), (5, vI (-1)), (0, Value.ref (ad 161)), (1, Value.ref (ad 162)), (2, Value.ref (ad 163)), (3, Value.ref (ad 164)), (4, vI x1)]) dL_lists_56 (by decide) rfl ?_
    refine a_iload (pc := 58) a 6 dL_lists_58 rfl ?_
    refine a_csi (pc := 60) a (As := [vI x1]) (rest := []) (fun sz => c_L_bits hinj hl0  h sz) (va_cwS 1 hts (gl_S (GL_5 _ (by decide +kernel)) (GL_5 _ (by decide +kernel)) (GL_4 _ (by decide +kernel)) (GL_5 _ (by decide +kernel))) rfl rfl rfl (by decide +kernel) ⟨Nat.le_of_ble_eq_true rfl, Nat.le_of_ble_eq_true rfl⟩) rfl rfl (Nat.le_of_ble_eq_true rfl) ⟨Nat.le_of_ble_eq_true rfl, Nat.le_of_ble_eq_true rfl⟩ dL_lists_60 ?_
    rintro x4 s9 ⟨hs9, h9⟩
    subst s9
    replace h := h9
    clear h9
    refine a_istore (pc := 63) a (ls1 := [(7, vI x4), (6, vI (-1)), (5, vI (-1)), (0, Value.ref (ad 161)), (1, Value.ref (ad 162)), (2, Value.ref (ad 163)), (3, Value.ref (ad 164)), (4, vI x1)]) dL_lists_63 (by decide) rfl ?_
    refine a_sub (ls1 := [(0, Value.ref (ad 161)), (1, Value.ref (ad 162)), (2, Value.ref (ad 163)), (3, Value.ref (ad 164)), (4, vI x1), (5, vI (-1)), (6, vI (-1)), (7, vI x4)]) [3, 4, 5, 6, 7, 2, 1, 0] rfl ?_
    refine a_wid 0 0 (by omega) (by omega) ?_
    refine g_wb3s 5 1 12 5 60 (fun x5 x6 x7 => [(0, Value.ref (ad 161)), (1, Value.ref (ad 162)), (2, Value.ref (ad 163)), (3, Value.ref (ad 164)), (4, vI x1), (5, vI x5), (6, vI x6), (7, vI x7)]) h (by decide) (by decide) ?_
    clear h
    intro x5 x6 x7 s8 ag65 c_k65 s_k65 hc_k65 hs_k65 hag65 h
    refine a_iload (pc := 65) a 7 dL_lists_65 rfl ?_
    refine a_if_le (pc := 67) a h.1 dL_lists_67 (tgt := 312) (by decide) (fun hq => ?_) (fun hq => ?_)
    · replace h := h.2.1 hq
      clear hq
      refine a_wid 5 60 (by omega) (by omega) ?_
      refine a_wid 5 60 (by omega) (by omega) ?_
      exact e_v (pc := 312) a hr dL_lists_312 h
    · replace h := h.2.2 hq
      clear hq
      refine a_iconst (pc := 70) a dL_lists_70 ?_
      refine a_istore (pc := 71) a (ls1 := [(8, vI (-1)), (0, Value.ref (ad 161)), (1, Value.ref (ad 162)), (2, Value.ref (ad 163)), (3, Value.ref (ad 164)), (4, vI x1), (5, vI x5), (6, vI x6), (7, vI x7)]) dL_lists_71 (by decide) rfl ?_
      refine a_iconst (pc := 73) a dL_lists_73 ?_
      refine a_istore (pc := 74) a (ls1 := [(9, vI 0), (8, vI (-1)), (0, Value.ref (ad 161)), (1, Value.ref (ad 162)), (2, Value.ref (ad 163)), (3, Value.ref (ad 164)), (4, vI x1), (5, vI x5), (6, vI x6), (7, vI x7)]) dL_lists_74 (by decide) rfl ?_
      refine a_iconst (pc := 76) a dL_lists_76 ?_
      refine a_istore (pc := 77) a (ls1 := [(10, vI 0), (9, vI 0), (8, vI (-1)), (0, Value.ref (ad 161)), (1, Value.ref (ad 162)), (2, Value.ref (ad 163)), (3, Value.ref (ad 164)), (4, vI x1), (5, vI x5), (6, vI x6), (7, vI x7)]) dL_lists_77 (by decide) rfl ?_
      refine a_sub (ls1 := [(0, Value.ref (ad 161)), (1, Value.ref (ad 162)), (2, Value.ref (ad 163)), (3, Value.ref (ad 164)), (4, vI x1), (5, vI x5), (6, vI x6), (7, vI x7), (8, vI (-1)), (9, vI 0), (10, vI 0)]) [3, 4, 5, 6, 7, 8, 9, 10, 2, 1, 0] rfl ?_
      refine g_wl3 (fun x9 x10 x11 => [(0, Value.ref (ad 161)), (1, Value.ref (ad 162)), (2, Value.ref (ad 163)), (3, Value.ref (ad 164)), (4, vI x1), (5, vI x5), (6, vI x6), (7, vI x7), (8, vI x9), (9, vI x10), (10, vI x11)]) h ?_
      clear h
      intro x9 x10 x11 ag79 hag79 h
      refine a_iload (pc := 79) a 10 dL_lists_79 rfl ?_
      refine a_iconst (pc := 81) a dL_lists_81 ?_
      refine a_icmp_ge (pc := 82) a h.1 ⟨by decide, by decide⟩ dL_lists_82 (tgt := 150) (by decide) (fun hq => ?_) (fun hq => ?_)
      · replace h := h.2.1 hq
        clear hq
        refine a_iload (pc := 150) a 9 dL_lists_150 rfl ?_
        refine a_istore (pc := 152) a (ls1 := [(5, vI x10), (0, Value.ref (ad 161)), (1, Value.ref (ad 162)), (2, Value.ref (ad 163)), (3, Value.ref (ad 164)), (4, vI x1), (6, vI x6), (7, vI x7), (8, vI x9), (9, vI x10), (10, vI x11)]) dL_lists_152 (by decide) rfl ?_
        refine a_aload_n (pc := 154) a 2 dL_lists_154 rfl rfl ?_
        refine a_bipush (pc := 155) a dL_lists_155 (by decide) ?_
        refine a_iload (pc := 157) a 8 dL_lists_157 rfl ?_
        refine a_imul (pc := 159) a dL_lists_159 ?_
        refine a_iconst (pc := 160) a dL_lists_160 ?_
        refine a_iadd (pc := 161) a dL_lists_161 ?_
        refine a_iald (pc := 162) a (tw hinj w2) (by decide) h.1 dL_lists_162 ?_
        replace h := h.2
        refine a_nm (fun x12 hx => ?_)
        replace h := h x12 hx
        clear hx
        refine a_istore (pc := 163) a (ls1 := [(10, vI x12), (5, vI x10), (0, Value.ref (ad 161)), (1, Value.ref (ad 162)), (2, Value.ref (ad 163)), (3, Value.ref (ad 164)), (4, vI x1), (6, vI x6), (7, vI x7), (8, vI x9), (9, vI x10)]) dL_lists_163 (by decide) rfl ?_
        refine a_iload (pc := 165) a 0 dL_lists_165 rfl ?_
        refine g_wj1 182 (c_k65 + 0) (s_k65 + 0) (fun x15 => [(0, Value.ref (ad 161)), (1, Value.ref (ad 162)), (2, Value.ref (ad 163)), (3, Value.ref (ad 164)), (4, vI x1), (5, vI x10), (6, vI x6), (7, vI x7), (8, vI x9), (10, vI x12)]) (fun x15 => [vI x15]) h ?_ ?_
        · clear h
          intro x15 h
          refine a_istore (pc := 182) a (ls1 := [(11, vI x15), (0, Value.ref (ad 161)), (1, Value.ref (ad 162)), (2, Value.ref (ad 163)), (3, Value.ref (ad 164)), (4, vI x1), (5, vI x10), (6, vI x6), (7, vI x7), (8, vI x9), (10, vI x12)]) dL_lists_182 (by decide) rfl ?_
          refine a_iload (pc := 184) a 10 dL_lists_184 rfl ?_
          refine g_wj1 224 (c_k65 + 0) (s_k65 + 0) (fun x19 => [(0, Value.ref (ad 161)), (1, Value.ref (ad 162)), (2, Value.ref (ad 163)), (3, Value.ref (ad 164)), (4, vI x1), (5, vI x10), (6, vI x6), (7, vI x7), (8, vI x9), (10, vI x12), (11, vI x15)]) (fun x19 => [vI x19]) h ?_ ?_
          · clear h
            intro x19 h
            refine a_istore (pc := 224) a (ls1 := [(12, vI x19), (0, Value.ref (ad 161)), (1, Value.ref (ad 162)), (2, Value.ref (ad 163)), (3, Value.ref (ad 164)), (4, vI x1), (5, vI x10), (6, vI x6), (7, vI x7), (8, vI x9), (10, vI x12), (11, vI x15)]) dL_lists_224 (by decide) rfl ?_
            refine a_iload (pc := 226) a 11 dL_lists_226 rfl ?_
            refine a_iconst (pc := 228) a dL_lists_228 ?_
            refine g_wj0s 272 (c_k65 + 0) (s_k65 + 0) [(0, Value.ref (ad 161)), (1, Value.ref (ad 162)), (2, Value.ref (ad 163)), (3, Value.ref (ad 164)), (4, vI x1), (5, vI x10), (7, vI x7), (8, vI x9), (10, vI x12), (12, vI x19)] [] h ?_ ?_
            · clear h
              intro s26 h
              refine a_iload (pc := 272) a 8 dL_lists_272 rfl ?_
              refine a_istore (pc := 274) a (ls1 := [(6, vI x12), (0, Value.ref (ad 161)), (1, Value.ref (ad 162)), (2, Value.ref (ad 163)), (3, Value.ref (ad 164)), (4, vI x1), (5, vI x10), (7, vI x7), (8, vI x9), (10, vI x12), (12, vI x19)]) dL_lists_274 (by decide) rfl ?_
              refine a_aload_n (pc := 276) a 4 dL_lists_276 rfl rfl ?_
              refine a_iconst (pc := 277) a dL_lists_277 ?_
              refine a_dup2 (pc := 278) a rfl rfl dL_lists_278 ?_
              refine a_iald (pc := 279) a (tw hinj w4) (by decide) (by decide) dL_lists_279 ?_
              refine a_iload (pc := 280) a 10 dL_lists_280 rfl ?_
              refine a_if_eq (pc := 282) a h.1 dL_lists_282 (tgt := 289) (by decide) (fun hq => ?_) (fun hq => ?_)
              · replace h := h.2.1 hq
                clear hq
                refine a_aload_n (pc := 289) a 1 dL_lists_289 rfl rfl ?_
                refine a_aload_n (pc := 290) a 2 dL_lists_290 rfl rfl ?_
                refine a_aload_n (pc := 291) a 3 dL_lists_291 rfl rfl ?_
                refine a_aload_n (pc := 292) a 4 dL_lists_292 rfl rfl ?_
                refine a_bipush (pc := 293) a dL_lists_293 (by decide) ?_
                refine a_aload_n (pc := 295) a 4 dL_lists_295 rfl rfl ?_
                refine a_iconst (pc := 296) a dL_lists_296 ?_
                refine a_iald (pc := 297) a (tw hinj w4) (by decide) (by decide) dL_lists_297 ?_
                refine a_iadd (pc := 298) a dL_lists_298 ?_
                refine a_iload (pc := 299) a 8 dL_lists_299 rfl ?_
                refine a_csi (pc := 301) a (As := [Value.ref (ad 161), Value.ref (ad 162), Value.ref (ad 163), Value.ref (ad 164), vI (10 + (s26 164 0)), vI x9]) (rest := [vI (s26 164 0), vI 0, Value.ref (ad 164)]) (fun sz => c_L_linesOf hinj hl0 hw  h sz) (va_cwS 6 hts (gl_S (GL_6 _ (by decide +kernel)) (GL_6 _ (by decide +kernel)) (GL_4 _ (by decide +kernel)) (GL_6 _ (by decide +kernel))) rfl rfl rfl (by decide +kernel) ⟨Nat.le_of_ble_eq_true rfl, Nat.le_of_ble_eq_true rfl⟩) rfl rfl (Nat.le_of_ble_eq_true rfl) ⟨by show c_k65 + 1 ≤ 5; omega, by show s_k65 + 12 ≤ 60; omega⟩ dL_lists_301 ?_
                clear h
                intro x27 s28 h
                refine a_iadd (pc := 304) a dL_lists_304 ?_
                refine a_iast (pc := 305) a (tw hinj w4) (by decide) (by decide) dL_lists_305 ?_
                refine a_nmS (fun s29 hx => ?_)
                replace h := h s29 hx
                clear hx
                refine a_iinc (pc := 306) a (ls1 := [(7, vI (x7 + (-1))), (6, vI x12), (0, Value.ref (ad 161)), (1, Value.ref (ad 162)), (2, Value.ref (ad 163)), (3, Value.ref (ad 164)), (4, vI x1), (5, vI x10), (8, vI x9), (10, vI x12), (12, vI x19)]) 7 dL_lists_306 rfl (by decide) rfl ?_
                refine a_goto (pc := 309) a dL_lists_309 (tgt := 65) (by decide) ?_
                refine a_sub (ls1 := [(0, Value.ref (ad 161)), (1, Value.ref (ad 162)), (2, Value.ref (ad 163)), (3, Value.ref (ad 164)), (4, vI x1), (5, vI x10), (6, vI x12), (7, vI (x7 + (-1)))]) [2, 3, 4, 5, 6, 7, 1, 0] rfl ?_
                refine a_wid (c_k65 + 1) (s_k65 + 12) (by omega) (by omega) ?_
                exact hag65 x10 x12 (x7 + (-1)) s29 h
              · replace h := h.2.2 hq
                clear hq
                refine a_iconst (pc := 285) a dL_lists_285 ?_
                refine a_goto (pc := 286) a dL_lists_286 (tgt := 304) (by decide) ?_
                refine a_iadd (pc := 304) a dL_lists_304 ?_
                refine a_iast (pc := 305) a (tw hinj w4) (by decide) (by decide) dL_lists_305 ?_
                refine a_nmS (fun s30 hx => ?_)
                replace h := h s30 hx
                clear hx
                refine a_iinc (pc := 306) a (ls1 := [(7, vI (x7 + (-1))), (6, vI x12), (0, Value.ref (ad 161)), (1, Value.ref (ad 162)), (2, Value.ref (ad 163)), (3, Value.ref (ad 164)), (4, vI x1), (5, vI x10), (8, vI x9), (10, vI x12), (12, vI x19)]) 7 dL_lists_306 rfl (by decide) rfl ?_
                refine a_goto (pc := 309) a dL_lists_309 (tgt := 65) (by decide) ?_
                refine a_sub (ls1 := [(0, Value.ref (ad 161)), (1, Value.ref (ad 162)), (2, Value.ref (ad 163)), (3, Value.ref (ad 164)), (4, vI x1), (5, vI x10), (6, vI x12), (7, vI (x7 + (-1)))]) [2, 3, 4, 5, 6, 7, 1, 0] rfl ?_
                refine a_wid (c_k65 + 1) (s_k65 + 12) (by omega) (by omega) ?_
                exact hag65 x10 x12 (x7 + (-1)) s30 h
            · clear h
              intro jj272 hjj272 h
              refine a_icmp_le (pc := 229) a h.1 ⟨by decide, by decide⟩ dL_lists_229 (tgt := 272) (by decide) (fun hq => ?_) (fun hq => ?_)
              · replace h := h.2.1 hq
                clear hq
                refine a_sub (ls1 := [(0, Value.ref (ad 161)), (1, Value.ref (ad 162)), (2, Value.ref (ad 163)), (3, Value.ref (ad 164)), (4, vI x1), (5, vI x10), (7, vI x7), (8, vI x9), (10, vI x12), (12, vI x19)]) [1, 2, 3, 4, 5, 6, 8, 9, 10, 0] rfl ?_
                exact hjj272 s8 h
              · replace h := h.2.2 hq
                clear hq
                refine a_iload (pc := 232) a 10 dL_lists_232 rfl ?_
                refine a_iload (pc := 234) a 7 dL_lists_234 rfl ?_
                refine a_icmp_eq (pc := 236) a h.1 h.2.1 dL_lists_236 (tgt := 272) (by decide) (fun hq => ?_) (fun hq => ?_)
                · replace h := h.2.2.1 hq
                  clear hq
                  refine a_sub (ls1 := [(0, Value.ref (ad 161)), (1, Value.ref (ad 162)), (2, Value.ref (ad 163)), (3, Value.ref (ad 164)), (4, vI x1), (5, vI x10), (7, vI x7), (8, vI x9), (10, vI x12), (12, vI x19)]) [1, 2, 3, 4, 5, 6, 8, 9, 10, 0] rfl ?_
                  exact hjj272 s8 h
                · replace h := h.2.2.2 hq
                  clear hq
                  refine a_aload_n (pc := 239) a 4 dL_lists_239 rfl rfl ?_
                  refine a_bipush (pc := 240) a dL_lists_240 (by decide) ?_
                  refine a_aload_n (pc := 242) a 4 dL_lists_242 rfl rfl ?_
                  refine a_iconst (pc := 243) a dL_lists_243 ?_
                  refine a_iald (pc := 244) a (tw hinj w4) (by decide) (by decide) dL_lists_244 ?_
                  refine a_iadd (pc := 245) a dL_lists_245 ?_
                  refine a_iload (pc := 246) a 0 dL_lists_246 rfl ?_
                  refine g_wj1 256 (c_k65 + 0) (s_k65 + 0) (fun x22 => [(0, Value.ref (ad 161)), (1, Value.ref (ad 162)), (2, Value.ref (ad 163)), (3, Value.ref (ad 164)), (4, vI x1), (5, vI x10), (7, vI x7), (8, vI x9), (10, vI x12), (12, vI x19)]) (fun x22 => [vI x22, vI (10 + (s8 164 0)), Value.ref (ad 164)]) h ?_ ?_
                  · clear h
                    intro x22 h
                    refine a_iconst (pc := 256) a dL_lists_256 ?_
                    refine a_iload (pc := 257) a 8 dL_lists_257 rfl ?_
                    refine a_iconst (pc := 259) a dL_lists_259 ?_
                    refine a_iconst (pc := 260) a dL_lists_260 ?_
                    refine a_csi (pc := 261) a (As := [vI x22, vI (-1), vI x12, vI (-1), vI (-1)]) (rest := [vI (10 + (s8 164 0)), Value.ref (ad 164)]) (fun sz => c_L_code hinj hl0  h sz) (va_cwS 5 hts (gl_S (GL_6 _ (by decide +kernel)) (GL_6 _ (by decide +kernel)) (GL_4 _ (by decide +kernel)) (GL_6 _ (by decide +kernel))) rfl rfl rfl (by decide +kernel) ⟨Nat.le_of_ble_eq_true rfl, Nat.le_of_ble_eq_true rfl⟩) rfl rfl (Nat.le_of_ble_eq_true rfl) ⟨by show c_k65 + 0 ≤ 5; omega, by show s_k65 + 0 ≤ 60; omega⟩ dL_lists_261 ?_
                    rintro x23 s9 ⟨hs9, h9⟩
                    subst s9
                    replace h := h9
                    clear h9
                    refine a_iast (pc := 264) a (tw hinj w4) (by decide) h.1 dL_lists_264 ?_
                    replace h := h.2
                    refine a_nmS (fun s24 hx => ?_)
                    replace h := h s24 hx
                    clear hx
                    refine a_aload_n (pc := 265) a 3 dL_lists_265 rfl rfl ?_
                    refine a_iconst (pc := 266) a dL_lists_266 ?_
                    refine a_dup2 (pc := 267) a rfl rfl dL_lists_267 ?_
                    refine a_iald (pc := 268) a (tw hinj w4) (by decide) (by decide) dL_lists_268 ?_
                    refine a_iconst (pc := 269) a dL_lists_269 ?_
                    refine a_iadd (pc := 270) a dL_lists_270 ?_
                    refine a_iast (pc := 271) a (tw hinj w4) (by decide) (by decide) dL_lists_271 ?_
                    refine a_nmS (fun s25 hx => ?_)
                    replace h := h s25 hx
                    clear hx
                    refine a_wid (c_k65 + 0) (s_k65 + 0) (by omega) (by omega) ?_
                    exact hjj272 s25 h
                  · clear h
                    intro jj256 hjj256 h
                    refine a_if_eq (pc := 248) a h.1 dL_lists_248 (tgt := 255) (by decide) (fun hq => ?_) (fun hq => ?_)
                    · replace h := h.2.1 hq
                      clear hq
                      refine a_iconst (pc := 255) a dL_lists_255 ?_
                      refine a_sub (ls1 := [(0, Value.ref (ad 161)), (1, Value.ref (ad 162)), (2, Value.ref (ad 163)), (3, Value.ref (ad 164)), (4, vI x1), (5, vI x10), (7, vI x7), (8, vI x9), (10, vI x12), (12, vI x19)]) [1, 2, 3, 4, 5, 6, 8, 9, 10, 0] rfl ?_
                      exact hjj256 1 h
                    · replace h := h.2.2 hq
                      clear hq
                      refine a_iconst (pc := 251) a dL_lists_251 ?_
                      refine a_goto (pc := 252) a dL_lists_252 (tgt := 256) (by decide) ?_
                      refine a_sub (ls1 := [(0, Value.ref (ad 161)), (1, Value.ref (ad 162)), (2, Value.ref (ad 163)), (3, Value.ref (ad 164)), (4, vI x1), (5, vI x10), (7, vI x7), (8, vI x9), (10, vI x12), (12, vI x19)]) [1, 2, 3, 4, 5, 6, 8, 9, 10, 0] rfl ?_
                      exact hjj256 2 h
          · clear h
            intro jj224 hjj224 h
            refine g_wj0 223 (c_k65 + 0) (s_k65 + 0) [(0, Value.ref (ad 161)), (1, Value.ref (ad 162)), (2, Value.ref (ad 163)), (3, Value.ref (ad 164)), (4, vI x1), (5, vI x10), (6, vI x6), (7, vI x7), (8, vI x9), (10, vI x12), (11, vI x15)] [] h ?_ ?_
            · clear h
              intro  h
              refine a_iconst (pc := 223) a dL_lists_223 ?_
              exact hjj224 0 h
            · clear h
              intro jj223 hjj223 h
              refine a_if_lt (pc := 186) a h.1 dL_lists_186 (tgt := 223) (by decide) (fun hq => ?_) (fun hq => ?_)
              · replace h := h.2.1 hq
                clear hq
                refine a_sub (ls1 := [(0, Value.ref (ad 161)), (1, Value.ref (ad 162)), (2, Value.ref (ad 163)), (3, Value.ref (ad 164)), (4, vI x1), (5, vI x10), (6, vI x6), (7, vI x7), (8, vI x9), (10, vI x12), (11, vI x15)]) [1, 2, 3, 4, 5, 6, 7, 8, 9, 10, 0] rfl ?_
                exact hjj223  h
              · replace h := h.2.2 hq
                clear hq
                refine a_iload (pc := 189) a 0 dL_lists_189 rfl ?_
                refine a_iconst (pc := 191) a dL_lists_191 ?_
                refine a_icmp_le (pc := 192) a h.1 ⟨by decide, by decide⟩ dL_lists_192 (tgt := 223) (by decide) (fun hq => ?_) (fun hq => ?_)
                · replace h := h.2.1 hq
                  clear hq
                  refine a_sub (ls1 := [(0, Value.ref (ad 161)), (1, Value.ref (ad 162)), (2, Value.ref (ad 163)), (3, Value.ref (ad 164)), (4, vI x1), (5, vI x10), (6, vI x6), (7, vI x7), (8, vI x9), (10, vI x12), (11, vI x15)]) [1, 2, 3, 4, 5, 6, 7, 8, 9, 10, 0] rfl ?_
                  exact hjj223  h
                · replace h := h.2.2 hq
                  clear hq
                  refine a_aload_n (pc := 195) a 1 dL_lists_195 rfl rfl ?_
                  refine a_bipush (pc := 196) a dL_lists_196 (by decide) ?_
                  refine a_iload (pc := 198) a 10 dL_lists_198 rfl ?_
                  refine a_iadd (pc := 200) a dL_lists_200 ?_
                  refine a_iald (pc := 201) a (tw hinj w1) (by decide) h.1 dL_lists_201 ?_
                  replace h := h.2
                  refine a_iconst (pc := 202) a dL_lists_202 ?_
                  refine a_icmp_ne (pc := 203) a h.1 ⟨by decide, by decide⟩ dL_lists_203 (tgt := 223) (by decide) (fun hq => ?_) (fun hq => ?_)
                  · replace h := h.2.1 hq
                    clear hq
                    refine a_sub (ls1 := [(0, Value.ref (ad 161)), (1, Value.ref (ad 162)), (2, Value.ref (ad 163)), (3, Value.ref (ad 164)), (4, vI x1), (5, vI x10), (6, vI x6), (7, vI x7), (8, vI x9), (10, vI x12), (11, vI x15)]) [1, 2, 3, 4, 5, 6, 7, 8, 9, 10, 0] rfl ?_
                    exact hjj223  h
                  · replace h := h.2.2 hq
                    clear hq
                    refine a_iload (pc := 206) a 0 dL_lists_206 rfl ?_
                    refine a_aload_n (pc := 208) a 2 dL_lists_208 rfl rfl ?_
                    refine a_bipush (pc := 209) a dL_lists_209 (by decide) ?_
                    refine a_iload (pc := 211) a 10 dL_lists_211 rfl ?_
                    refine a_csi (pc := 213) a (As := [Value.ref (ad 162), vI 15, vI x12]) (rest := [vI x15]) (fun sz => c_L_member hinj hl0  h sz) (va_cwS 3 hts (gl_S (GL_6 _ (by decide +kernel)) (GL_6 _ (by decide +kernel)) (GL_4 _ (by decide +kernel)) (GL_6 _ (by decide +kernel))) rfl rfl rfl (by decide +kernel) ⟨Nat.le_of_ble_eq_true rfl, Nat.le_of_ble_eq_true rfl⟩) rfl rfl (Nat.le_of_ble_eq_true rfl) ⟨by show c_k65 + 0 ≤ 5; omega, by show s_k65 + 0 ≤ 60; omega⟩ dL_lists_213 ?_
                    rintro x18 s9 ⟨hs9, h9⟩
                    subst s9
                    replace h := h9
                    clear h9
                    refine a_icmp_ne (pc := 216) a h.1 h.2.1 dL_lists_216 (tgt := 223) (by decide) (fun hq => ?_) (fun hq => ?_)
                    · replace h := h.2.2.1 hq
                      clear hq
                      refine a_sub (ls1 := [(0, Value.ref (ad 161)), (1, Value.ref (ad 162)), (2, Value.ref (ad 163)), (3, Value.ref (ad 164)), (4, vI x1), (5, vI x10), (6, vI x6), (7, vI x7), (8, vI x9), (10, vI x12), (11, vI x15)]) [1, 2, 3, 4, 5, 6, 7, 8, 9, 10, 0] rfl ?_
                      refine a_wid (c_k65 + 0) (s_k65 + 0) (by omega) (by omega) ?_
                      exact hjj223  h
                    · replace h := h.2.2.2 hq
                      clear hq
                      refine a_iconst (pc := 219) a dL_lists_219 ?_
                      refine a_goto (pc := 220) a dL_lists_220 (tgt := 224) (by decide) ?_
                      refine a_sub (ls1 := [(0, Value.ref (ad 161)), (1, Value.ref (ad 162)), (2, Value.ref (ad 163)), (3, Value.ref (ad 164)), (4, vI x1), (5, vI x10), (6, vI x6), (7, vI x7), (8, vI x9), (10, vI x12), (11, vI x15)]) [1, 2, 3, 4, 5, 6, 7, 8, 9, 10, 0] rfl ?_
                      refine a_wid (c_k65 + 0) (s_k65 + 0) (by omega) (by omega) ?_
                      exact hjj224 1 h
        · clear h
          intro jj182 hjj182 h
          refine a_if_ge (pc := 167) a h.1 dL_lists_167 (tgt := 174) (by decide) (fun hq => ?_) (fun hq => ?_)
          · replace h := h.2.1 hq
            clear hq
            refine a_aload_n (pc := 174) a 3 dL_lists_174 rfl rfl ?_
            refine a_iload (pc := 175) a 6 dL_lists_175 rfl ?_
            refine a_iload (pc := 177) a 0 dL_lists_177 rfl ?_
            refine a_csi (pc := 179) a (As := [Value.ref (ad 162), vI x1, vI x12]) (rest := []) (fun sz => c_L_member hinj hl0  h sz) (va_cwS 3 hts (gl_S (GL_6 _ (by decide +kernel)) (GL_6 _ (by decide +kernel)) (GL_4 _ (by decide +kernel)) (GL_6 _ (by decide +kernel))) rfl rfl rfl (by decide +kernel) ⟨Nat.le_of_ble_eq_true rfl, Nat.le_of_ble_eq_true rfl⟩) rfl rfl (Nat.le_of_ble_eq_true rfl) ⟨by show c_k65 + 0 ≤ 5; omega, by show s_k65 + 0 ≤ 60; omega⟩ dL_lists_179 ?_
            rintro x14 s9 ⟨hs9, h9⟩
            subst s9
            replace h := h9
            clear h9
            refine a_sub (ls1 := [(0, Value.ref (ad 161)), (1, Value.ref (ad 162)), (2, Value.ref (ad 163)), (3, Value.ref (ad 164)), (4, vI x1), (5, vI x10), (6, vI x6), (7, vI x7), (8, vI x9), (10, vI x12)]) [2, 3, 4, 5, 6, 1, 7, 8, 9, 0] rfl ?_
            refine a_wid (c_k65 + 0) (s_k65 + 0) (by omega) (by omega) ?_
            exact hjj182 x14 h
          · replace h := h.2.2 hq
            clear hq
            refine a_iconst (pc := 170) a dL_lists_170 ?_
            refine a_goto (pc := 171) a dL_lists_171 (tgt := 182) (by decide) ?_
            refine a_sub (ls1 := [(0, Value.ref (ad 161)), (1, Value.ref (ad 162)), (2, Value.ref (ad 163)), (3, Value.ref (ad 164)), (4, vI x1), (5, vI x10), (6, vI x6), (7, vI x7), (8, vI x9), (10, vI x12)]) [2, 3, 4, 5, 6, 1, 7, 8, 9, 0] rfl ?_
            exact hjj182 1 h
      · replace h := h.2.2 hq
        clear hq
        refine a_sipush (pc := 85) a dL_lists_85 (by decide) ?_
        refine a_aload_n (pc := 88) a 1 dL_lists_88 rfl rfl ?_
        refine a_iload (pc := 89) a 4 dL_lists_89 rfl ?_
        refine a_iload (pc := 91) a 10 dL_lists_91 rfl ?_
        refine a_csi (pc := 93) a (As := [Value.ref (ad 162), vI x1, vI x11]) (rest := [vI 1000]) (fun sz => c_L_block hinj hl0  h sz) (va_cwS 3 hts (gl_S (GL_5 _ (by decide +kernel)) (GL_6 _ (by decide +kernel)) (GL_4 _ (by decide +kernel)) (GL_6 _ (by decide +kernel))) rfl rfl rfl (by decide +kernel) ⟨Nat.le_of_ble_eq_true rfl, Nat.le_of_ble_eq_true rfl⟩) rfl rfl (Nat.le_of_ble_eq_true rfl) ⟨by show c_k65 + 0 ≤ 5; omega, by show s_k65 + 0 ≤ 60; omega⟩ dL_lists_93 ?_
        rintro x31 s9 ⟨hs9, h9⟩
        subst s9
        replace h := h9
        clear h9
        refine a_imul (pc := 96) a dL_lists_96 ?_
        refine a_aload_n (pc := 97) a 1 dL_lists_97 rfl rfl ?_
        refine a_iload (pc := 98) a 10 dL_lists_98 rfl ?_
        refine a_csi (pc := 100) a (As := [Value.ref (ad 162), vI x11]) (rest := [vI (1000 * x31)]) (fun sz => c_L_key hinj hl0  h sz) (va_cwS 2 hts (gl_S (GL_6 _ (by decide +kernel)) (GL_6 _ (by decide +kernel)) (GL_4 _ (by decide +kernel)) (GL_6 _ (by decide +kernel))) rfl rfl rfl (by decide +kernel) ⟨Nat.le_of_ble_eq_true rfl, Nat.le_of_ble_eq_true rfl⟩) rfl rfl (Nat.le_of_ble_eq_true rfl) ⟨by show c_k65 + 0 + 0 ≤ 5; omega, by show s_k65 + 0 + 0 ≤ 60; omega⟩ dL_lists_100 ?_
        rintro x32 s9 ⟨hs9, h9⟩
        subst s9
        replace h := h9
        clear h9
        refine a_iadd (pc := 103) a dL_lists_103 ?_
        refine a_nm (fun x33 hx => ?_)
        replace h := h x33 hx
        clear hx
        refine a_istore (pc := 104) a (ls1 := [(11, vI x33), (0, Value.ref (ad 161)), (1, Value.ref (ad 162)), (2, Value.ref (ad 163)), (3, Value.ref (ad 164)), (4, vI x1), (5, vI x5), (6, vI x6), (7, vI x7), (8, vI x9), (9, vI x10), (10, vI x11)]) dL_lists_104 (by decide) rfl ?_
        refine a_iload (pc := 106) a 5 dL_lists_106 rfl ?_
        refine a_iload (pc := 108) a 11 dL_lists_108 rfl ?_
        refine a_ishr (pc := 110) a dL_lists_110 ?_
        refine a_iconst (pc := 111) a dL_lists_111 ?_
        refine a_iand (pc := 112) a dL_lists_112 ?_
        refine a_iconst (pc := 113) a dL_lists_113 ?_
        refine a_icmp_ne (pc := 114) a h.1 ⟨by decide, by decide⟩ dL_lists_114 (tgt := 144) (by decide) (fun hq => ?_) (fun hq => ?_)
        · replace h := h.2.1 hq
          clear hq
          refine a_iinc (pc := 144) a (ls1 := [(10, vI (x11 + 1)), (11, vI x33), (0, Value.ref (ad 161)), (1, Value.ref (ad 162)), (2, Value.ref (ad 163)), (3, Value.ref (ad 164)), (4, vI x1), (5, vI x5), (6, vI x6), (7, vI x7), (8, vI x9), (9, vI x10)]) 11 dL_lists_144 rfl (by decide) rfl ?_
          refine a_goto (pc := 147) a dL_lists_147 (tgt := 79) (by decide) ?_
          refine a_sub (ls1 := [(0, Value.ref (ad 161)), (1, Value.ref (ad 162)), (2, Value.ref (ad 163)), (3, Value.ref (ad 164)), (4, vI x1), (5, vI x5), (6, vI x6), (7, vI x7), (8, vI x9), (9, vI x10), (10, vI (x11 + 1))]) [2, 3, 4, 5, 6, 7, 8, 9, 10, 11, 0] rfl ?_
          exact hag79 x9 x10 (x11 + 1) h
        · replace h := h.2.2 hq
          clear hq
          refine a_iload (pc := 117) a 0 dL_lists_117 rfl ?_
          refine a_iload (pc := 119) a 6 dL_lists_119 rfl ?_
          refine a_icmp_le (pc := 121) a h.1 h.2.1 dL_lists_121 (tgt := 144) (by decide) (fun hq => ?_) (fun hq => ?_)
          · replace h := h.2.2.1 hq
            clear hq
            refine a_iinc (pc := 144) a (ls1 := [(10, vI (x11 + 1)), (11, vI x33), (0, Value.ref (ad 161)), (1, Value.ref (ad 162)), (2, Value.ref (ad 163)), (3, Value.ref (ad 164)), (4, vI x1), (5, vI x5), (6, vI x6), (7, vI x7), (8, vI x9), (9, vI x10)]) 11 dL_lists_144 rfl (by decide) rfl ?_
            refine a_goto (pc := 147) a dL_lists_147 (tgt := 79) (by decide) ?_
            refine a_sub (ls1 := [(0, Value.ref (ad 161)), (1, Value.ref (ad 162)), (2, Value.ref (ad 163)), (3, Value.ref (ad 164)), (4, vI x1), (5, vI x5), (6, vI x6), (7, vI x7), (8, vI x9), (9, vI x10), (10, vI (x11 + 1))]) [2, 3, 4, 5, 6, 7, 8, 9, 10, 11, 0] rfl ?_
            exact hag79 x9 x10 (x11 + 1) h
          · replace h := h.2.2.2 hq
            clear hq
            refine a_iload (pc := 124) a 9 dL_lists_124 rfl ?_
            refine a_if_lt (pc := 126) a h.1 dL_lists_126 (tgt := 136) (by decide) (fun hq => ?_) (fun hq => ?_)
            · replace h := h.2.1 hq
              clear hq
              refine a_iload (pc := 136) a 11 dL_lists_136 rfl ?_
              refine a_istore (pc := 138) a (ls1 := [(8, vI x11), (11, vI x33), (0, Value.ref (ad 161)), (1, Value.ref (ad 162)), (2, Value.ref (ad 163)), (3, Value.ref (ad 164)), (4, vI x1), (5, vI x5), (6, vI x6), (7, vI x7), (9, vI x10), (10, vI x11)]) dL_lists_138 (by decide) rfl ?_
              refine a_iload (pc := 140) a 1 dL_lists_140 rfl ?_
              refine a_istore (pc := 142) a (ls1 := [(9, vI x33), (8, vI x11), (11, vI x33), (0, Value.ref (ad 161)), (1, Value.ref (ad 162)), (2, Value.ref (ad 163)), (3, Value.ref (ad 164)), (4, vI x1), (5, vI x5), (6, vI x6), (7, vI x7), (10, vI x11)]) dL_lists_142 (by decide) rfl ?_
              refine a_iinc (pc := 144) a (ls1 := [(10, vI (x11 + 1)), (9, vI x33), (8, vI x11), (11, vI x33), (0, Value.ref (ad 161)), (1, Value.ref (ad 162)), (2, Value.ref (ad 163)), (3, Value.ref (ad 164)), (4, vI x1), (5, vI x5), (6, vI x6), (7, vI x7)]) 11 dL_lists_144 rfl (by decide) rfl ?_
              refine a_goto (pc := 147) a dL_lists_147 (tgt := 79) (by decide) ?_
              refine a_sub (ls1 := [(0, Value.ref (ad 161)), (1, Value.ref (ad 162)), (2, Value.ref (ad 163)), (3, Value.ref (ad 164)), (4, vI x1), (5, vI x5), (6, vI x6), (7, vI x7), (8, vI x11), (9, vI x33), (10, vI (x11 + 1))]) [4, 5, 6, 7, 8, 9, 10, 11, 2, 1, 0] rfl ?_
              exact hag79 x11 x33 (x11 + 1) h
            · replace h := h.2.2 hq
              clear hq
              refine a_iload (pc := 129) a 0 dL_lists_129 rfl ?_
              refine a_iload (pc := 131) a 10 dL_lists_131 rfl ?_
              refine a_icmp_ge (pc := 133) a h.1 h.2.1 dL_lists_133 (tgt := 144) (by decide) (fun hq => ?_) (fun hq => ?_)
              · replace h := h.2.2.1 hq
                clear hq
                refine a_iinc (pc := 144) a (ls1 := [(10, vI (x11 + 1)), (11, vI x33), (0, Value.ref (ad 161)), (1, Value.ref (ad 162)), (2, Value.ref (ad 163)), (3, Value.ref (ad 164)), (4, vI x1), (5, vI x5), (6, vI x6), (7, vI x7), (8, vI x9), (9, vI x10)]) 11 dL_lists_144 rfl (by decide) rfl ?_
                refine a_goto (pc := 147) a dL_lists_147 (tgt := 79) (by decide) ?_
                refine a_sub (ls1 := [(0, Value.ref (ad 161)), (1, Value.ref (ad 162)), (2, Value.ref (ad 163)), (3, Value.ref (ad 164)), (4, vI x1), (5, vI x5), (6, vI x6), (7, vI x7), (8, vI x9), (9, vI x10), (10, vI (x11 + 1))]) [2, 3, 4, 5, 6, 7, 8, 9, 10, 11, 0] rfl ?_
                exact hag79 x9 x10 (x11 + 1) h
              · replace h := h.2.2.2 hq
                clear hq
                refine a_iload (pc := 136) a 11 dL_lists_136 rfl ?_
                refine a_istore (pc := 138) a (ls1 := [(8, vI x11), (11, vI x33), (0, Value.ref (ad 161)), (1, Value.ref (ad 162)), (2, Value.ref (ad 163)), (3, Value.ref (ad 164)), (4, vI x1), (5, vI x5), (6, vI x6), (7, vI x7), (9, vI x10), (10, vI x11)]) dL_lists_138 (by decide) rfl ?_
                refine a_iload (pc := 140) a 1 dL_lists_140 rfl ?_
                refine a_istore (pc := 142) a (ls1 := [(9, vI x33), (8, vI x11), (11, vI x33), (0, Value.ref (ad 161)), (1, Value.ref (ad 162)), (2, Value.ref (ad 163)), (3, Value.ref (ad 164)), (4, vI x1), (5, vI x5), (6, vI x6), (7, vI x7), (10, vI x11)]) dL_lists_142 (by decide) rfl ?_
                refine a_iinc (pc := 144) a (ls1 := [(10, vI (x11 + 1)), (9, vI x33), (8, vI x11), (11, vI x33), (0, Value.ref (ad 161)), (1, Value.ref (ad 162)), (2, Value.ref (ad 163)), (3, Value.ref (ad 164)), (4, vI x1), (5, vI x5), (6, vI x6), (7, vI x7)]) 11 dL_lists_144 rfl (by decide) rfl ?_
                refine a_goto (pc := 147) a dL_lists_147 (tgt := 79) (by decide) ?_
                refine a_sub (ls1 := [(0, Value.ref (ad 161)), (1, Value.ref (ad 162)), (2, Value.ref (ad 163)), (3, Value.ref (ad 164)), (4, vI x1), (5, vI x5), (6, vI x6), (7, vI x7), (8, vI x11), (9, vI x33), (10, vI (x11 + 1))]) [4, 5, 6, 7, 8, 9, 10, 11, 2, 1, 0] rfl ?_
                exact hag79 x11 x33 (x11 + 1) h
  · replace h := h.2.2 hq
    clear hq
    refine a_iload (pc := 13) a 4 dL_lists_13 rfl ?_
    refine a_aload_n (pc := 15) a 3 dL_lists_15 rfl rfl ?_
    refine a_iconst (pc := 16) a dL_lists_16 ?_
    refine a_iald (pc := 17) a (tw hinj w4) (by decide) (by decide) dL_lists_17 ?_
    refine a_iload (pc := 18) a 5 dL_lists_18 rfl ?_
    refine a_ishr (pc := 20) a dL_lists_20 ?_
    refine a_iconst (pc := 21) a dL_lists_21 ?_
    refine a_iand (pc := 22) a dL_lists_22 ?_
    refine a_iconst (pc := 23) a dL_lists_23 ?_
    refine a_icmp_ne (pc := 24) a h.1 ⟨by decide, by decide⟩ dL_lists_24 (tgt := 38) (by decide) (fun hq => ?_) (fun hq => ?_)
    · replace h := h.2.1 hq
      clear hq
      refine a_iconst (pc := 38) a dL_lists_38 ?_
      refine a_ior (pc := 39) a dL_lists_39 ?_
      refine a_nm (fun x34 hx => ?_)
      replace h := h x34 hx
      clear hx
      refine a_istore (pc := 40) a (ls1 := [(4, vI x34), (0, Value.ref (ad 161)), (1, Value.ref (ad 162)), (2, Value.ref (ad 163)), (3, Value.ref (ad 164)), (5, vI x2)]) dL_lists_40 (by decide) rfl ?_
      refine a_iinc (pc := 42) a (ls1 := [(5, vI (x2 + 1)), (4, vI x34), (0, Value.ref (ad 161)), (1, Value.ref (ad 162)), (2, Value.ref (ad 163)), (3, Value.ref (ad 164))]) 5 dL_lists_42 rfl (by decide) rfl ?_
      refine a_goto (pc := 45) a dL_lists_45 (tgt := 6) (by decide) ?_
      refine a_sub (ls1 := [(0, Value.ref (ad 161)), (1, Value.ref (ad 162)), (2, Value.ref (ad 163)), (3, Value.ref (ad 164)), (4, vI x34), (5, vI (x2 + 1))]) [2, 3, 4, 5, 1, 0] rfl ?_
      exact hag6 x34 (x2 + 1) h
    · replace h := h.2.2 hq
      clear hq
      refine a_iconst (pc := 27) a dL_lists_27 ?_
      refine a_aload_n (pc := 28) a 2 dL_lists_28 rfl rfl ?_
      refine a_iconst (pc := 29) a dL_lists_29 ?_
      refine a_iload (pc := 30) a 5 dL_lists_30 rfl ?_
      refine a_imul (pc := 32) a dL_lists_32 ?_
      refine a_iald (pc := 33) a (tw hinj w3) (by decide) h.1 dL_lists_33 ?_
      replace h := h.2
      refine a_ishl (pc := 34) a dL_lists_34 ?_
      refine a_goto (pc := 35) a dL_lists_35 (tgt := 39) (by decide) ?_
      refine a_ior (pc := 39) a dL_lists_39 ?_
      refine a_nm (fun x35 hx => ?_)
      replace h := h x35 hx
      clear hx
      refine a_istore (pc := 40) a (ls1 := [(4, vI x35), (0, Value.ref (ad 161)), (1, Value.ref (ad 162)), (2, Value.ref (ad 163)), (3, Value.ref (ad 164)), (5, vI x2)]) dL_lists_40 (by decide) rfl ?_
      refine a_iinc (pc := 42) a (ls1 := [(5, vI (x2 + 1)), (4, vI x35), (0, Value.ref (ad 161)), (1, Value.ref (ad 162)), (2, Value.ref (ad 163)), (3, Value.ref (ad 164))]) 5 dL_lists_42 rfl (by decide) rfl ?_
      refine a_goto (pc := 45) a dL_lists_45 (tgt := 6) (by decide) ?_
      refine a_sub (ls1 := [(0, Value.ref (ad 161)), (1, Value.ref (ad 162)), (2, Value.ref (ad 163)), (3, Value.ref (ad 164)), (4, vI x35), (5, vI (x2 + 1))]) [2, 3, 4, 5, 1, 0] rfl ?_
      exact hag6 x35 (x2 + 1) h

set_option maxRecDepth 100000 in
set_option maxHeartbeats 4000000 in
theorem c_L_covered {l : Launch} {D : va_G} {X : XI} {ad : Nat → Nat} (hinj : adI ad) (hl0 : l.stackTraces = false)   {σ : St} {K : Int → Prop} (h : f_L_covered σ K) (sz : Nat) : Met l yL_covered (WW (.code yL_covered cL_covered 7 (some .int))) { frames := 2, cells := 0, slots := 0, locals := 45 } (va_Pc [Value.ref (ad 161), Value.ref (ad 163), Value.ref (ad 164)] (WD D X ad σ sz)) (QI D X ad sz (fun r τ => τ = σ ∧ K r)) 0 0 (AA ad sz) := by
  refine aM_start (cc := cL_covered) (maxL := 7) (ret := (some .int)) (own := RL) [Value.ref (ad 161), Value.ref (ad 163), Value.ref (ad 164)] (by decide) rfl rfl (Nat.le_of_ble_eq_true rfl) hinj hl0 ?_
  intro p e s m below meth c a hr hsz
  subst hsz
  have hts := a.1.2.2.2.2
  have w1 : tyc 161 (0, 15) := ⟨by decide, rfl⟩
  have w2 : tyc 163 (0, 60) := ⟨by decide, rfl⟩
  have w3 : tyc 164 (0, 64) := ⟨by decide, rfl⟩
  unfold f_L_covered at h
  refine a_sub (ls1 := [(0, Value.ref (ad 161)), (1, Value.ref (ad 163)), (2, Value.ref (ad 164))]) [0, 1, 2] rfl ?_
  refine a_iconst (pc := 0) a dL_covered_0 ?_
  refine a_istore_n (pc := 1) a (ls1 := [(3, vI 0), (0, Value.ref (ad 161)), (1, Value.ref (ad 163)), (2, Value.ref (ad 164))]) dL_covered_1 rfl (by decide) rfl ?_
  refine a_iconst (pc := 2) a dL_covered_2 ?_
  refine a_istore (pc := 3) a (ls1 := [(4, vI 0), (3, vI 0), (0, Value.ref (ad 161)), (1, Value.ref (ad 163)), (2, Value.ref (ad 164))]) dL_covered_3 (by decide) rfl ?_
  refine a_sub (ls1 := [(0, Value.ref (ad 161)), (1, Value.ref (ad 163)), (2, Value.ref (ad 164)), (3, vI 0), (4, vI 0)]) [2, 3, 4, 1, 0] rfl ?_
  refine g_wl2 (fun x1 x2 => [(0, Value.ref (ad 161)), (1, Value.ref (ad 163)), (2, Value.ref (ad 164)), (3, vI x1), (4, vI x2)]) h ?_
  clear h
  intro x1 x2 ag5 hag5 h
  refine a_iload (pc := 5) a 4 dL_covered_5 rfl ?_
  refine a_bipush (pc := 7) a dL_covered_7 (by decide) ?_
  refine g_wj0 92 0 0 [(0, Value.ref (ad 161)), (1, Value.ref (ad 163)), (3, vI x1)] [] h ?_ ?_
  · clear h
    intro  h
    refine a_iload_n (pc := 92) a 2 dL_covered_92 rfl rfl ?_
    refine a_aload_n (pc := 93) a 0 dL_covered_93 rfl rfl ?_
    refine a_aload_n (pc := 94) a 1 dL_covered_94 rfl rfl ?_
    refine a_csi (pc := 95) a (As := [Value.ref (ad 161), Value.ref (ad 163)]) (rest := [vI x1]) (fun sz => c_L_shown hinj hl0  h sz) (va_cwS 2 hts (gl_S (GL_5 _ (by decide +kernel)) (GL_5 _ (by decide +kernel)) (GL_4 _ (by decide +kernel)) (GL_5 _ (by decide +kernel))) rfl rfl rfl (by decide +kernel) ⟨Nat.le_of_ble_eq_true rfl, Nat.le_of_ble_eq_true rfl⟩) rfl rfl (Nat.le_of_ble_eq_true rfl) ⟨Nat.le_of_ble_eq_true rfl, Nat.le_of_ble_eq_true rfl⟩ dL_covered_95 ?_
    rintro x11 s9 ⟨hs9, h9⟩
    subst s9
    replace h := h9
    clear h9
    refine a_iand (pc := 98) a dL_covered_98 ?_
    exact e_i (pc := 99) a hr dL_covered_99 ⟨rfl, h⟩
  · clear h
    intro jj92 hjj92 h
    refine a_icmp_ge (pc := 9) a h.1 ⟨by decide, by decide⟩ dL_covered_9 (tgt := 92) (by decide) (fun hq => ?_) (fun hq => ?_)
    · replace h := h.2.1 hq
      clear hq
      refine a_sub (ls1 := [(0, Value.ref (ad 161)), (1, Value.ref (ad 163)), (3, vI x1)]) [0, 1, 3] rfl ?_
      exact hjj92  h
    · replace h := h.2.2 hq
      clear hq
      refine a_aload_n (pc := 12) a 2 dL_covered_12 rfl rfl ?_
      refine a_iconst (pc := 13) a dL_covered_13 ?_
      refine a_iald (pc := 14) a (tw hinj w3) (by decide) (by decide) dL_covered_14 ?_
      refine a_if_lt (pc := 15) a h.1 dL_covered_15 (tgt := 92) (by decide) (fun hq => ?_) (fun hq => ?_)
      · replace h := h.2.1 hq
        clear hq
        refine a_sub (ls1 := [(0, Value.ref (ad 161)), (1, Value.ref (ad 163)), (3, vI x1)]) [0, 1, 3] rfl ?_
        exact hjj92  h
      · replace h := h.2.2 hq
        clear hq
        refine a_aload_n (pc := 18) a 1 dL_covered_18 rfl rfl ?_
        refine a_iconst (pc := 19) a dL_covered_19 ?_
        refine a_iload (pc := 20) a 4 dL_covered_20 rfl ?_
        refine a_imul (pc := 22) a dL_covered_22 ?_
        refine a_iconst (pc := 23) a dL_covered_23 ?_
        refine a_iadd (pc := 24) a dL_covered_24 ?_
        refine a_iald (pc := 25) a (tw hinj w2) (by decide) h.1 dL_covered_25 ?_
        replace h := h.2
        refine a_aload_n (pc := 26) a 2 dL_covered_26 rfl rfl ?_
        refine a_iconst (pc := 27) a dL_covered_27 ?_
        refine a_iald (pc := 28) a (tw hinj w3) (by decide) (by decide) dL_covered_28 ?_
        refine a_isub (pc := 29) a dL_covered_29 ?_
        refine a_nm (fun x4 hx => ?_)
        replace h := h x4 hx
        clear hx
        refine a_istore (pc := 30) a (ls1 := [(5, vI x4), (0, Value.ref (ad 161)), (1, Value.ref (ad 163)), (2, Value.ref (ad 164)), (3, vI x1), (4, vI x2)]) dL_covered_30 (by decide) rfl ?_
        refine a_aload_n (pc := 32) a 2 dL_covered_32 rfl rfl ?_
        refine a_iconst (pc := 33) a dL_covered_33 ?_
        refine a_iload (pc := 34) a 5 dL_covered_34 rfl ?_
        refine a_imul (pc := 36) a dL_covered_36 ?_
        refine a_iconst (pc := 37) a dL_covered_37 ?_
        refine a_iadd (pc := 38) a dL_covered_38 ?_
        refine a_iald (pc := 39) a (tw hinj w2) (by decide) h.1 dL_covered_39 ?_
        replace h := h.2
        refine a_aload_n (pc := 40) a 3 dL_covered_40 rfl rfl ?_
        refine a_bipush (pc := 41) a dL_covered_41 (by decide) ?_
        refine a_iald (pc := 43) a (tw hinj w3) (by decide) (by decide) dL_covered_43 ?_
        refine a_isub (pc := 44) a dL_covered_44 ?_
        refine a_nm (fun x5 hx => ?_)
        replace h := h x5 hx
        clear hx
        refine a_istore (pc := 45) a (ls1 := [(6, vI x5), (5, vI x4), (0, Value.ref (ad 161)), (1, Value.ref (ad 163)), (2, Value.ref (ad 164)), (3, vI x1), (4, vI x2)]) dL_covered_45 (by decide) rfl ?_
        refine a_iload_n (pc := 47) a 5 dL_covered_47 rfl rfl ?_
        refine a_iload (pc := 48) a 1 dL_covered_48 rfl ?_
        refine a_if_lt (pc := 50) a h.1 dL_covered_50 (tgt := 83) (by decide) (fun hq => ?_) (fun hq => ?_)
        · replace h := h.2.1 hq
          clear hq
          refine a_iconst (pc := 83) a dL_covered_83 ?_
          refine a_ior (pc := 84) a dL_covered_84 ?_
          refine a_nm (fun x6 hx => ?_)
          replace h := h x6 hx
          clear hx
          refine a_istore_n (pc := 85) a (ls1 := [(3, vI x6), (6, vI x5), (5, vI x4), (0, Value.ref (ad 161)), (1, Value.ref (ad 163)), (2, Value.ref (ad 164)), (4, vI x2)]) dL_covered_85 rfl (by decide) rfl ?_
          refine a_iinc (pc := 86) a (ls1 := [(4, vI (x2 + 1)), (3, vI x6), (6, vI x5), (5, vI x4), (0, Value.ref (ad 161)), (1, Value.ref (ad 163)), (2, Value.ref (ad 164))]) 6 dL_covered_86 rfl (by decide) rfl ?_
          refine a_goto (pc := 89) a dL_covered_89 (tgt := 5) (by decide) ?_
          refine a_sub (ls1 := [(0, Value.ref (ad 161)), (1, Value.ref (ad 163)), (2, Value.ref (ad 164)), (3, vI x6), (4, vI (x2 + 1))]) [4, 5, 6, 1, 0] rfl ?_
          exact hag5 x6 (x2 + 1) h
        · replace h := h.2.2 hq
          clear hq
          refine a_iload (pc := 53) a 1 dL_covered_53 rfl ?_
          refine a_aload_n (pc := 55) a 4 dL_covered_55 rfl rfl ?_
          refine a_bipush (pc := 56) a dL_covered_56 (by decide) ?_
          refine a_iald (pc := 58) a (tw hinj w3) (by decide) (by decide) dL_covered_58 ?_
          refine a_icmp_ge (pc := 59) a h.1 h.2.1 dL_covered_59 (tgt := 83) (by decide) (fun hq => ?_) (fun hq => ?_)
          · replace h := h.2.2.1 hq
            clear hq
            refine a_iconst (pc := 83) a dL_covered_83 ?_
            refine a_ior (pc := 84) a dL_covered_84 ?_
            refine a_nm (fun x7 hx => ?_)
            replace h := h x7 hx
            clear hx
            refine a_istore_n (pc := 85) a (ls1 := [(3, vI x7), (6, vI x5), (5, vI x4), (0, Value.ref (ad 161)), (1, Value.ref (ad 163)), (2, Value.ref (ad 164)), (4, vI x2)]) dL_covered_85 rfl (by decide) rfl ?_
            refine a_iinc (pc := 86) a (ls1 := [(4, vI (x2 + 1)), (3, vI x7), (6, vI x5), (5, vI x4), (0, Value.ref (ad 161)), (1, Value.ref (ad 163)), (2, Value.ref (ad 164))]) 6 dL_covered_86 rfl (by decide) rfl ?_
            refine a_goto (pc := 89) a dL_covered_89 (tgt := 5) (by decide) ?_
            refine a_sub (ls1 := [(0, Value.ref (ad 161)), (1, Value.ref (ad 163)), (2, Value.ref (ad 164)), (3, vI x7), (4, vI (x2 + 1))]) [4, 5, 6, 1, 0] rfl ?_
            exact hag5 x7 (x2 + 1) h
          · replace h := h.2.2.2 hq
            clear hq
            refine a_iload (pc := 62) a 0 dL_covered_62 rfl ?_
            refine a_if_lt (pc := 64) a h.1 dL_covered_64 (tgt := 83) (by decide) (fun hq => ?_) (fun hq => ?_)
            · replace h := h.2.1 hq
              clear hq
              refine a_iconst (pc := 83) a dL_covered_83 ?_
              refine a_ior (pc := 84) a dL_covered_84 ?_
              refine a_nm (fun x8 hx => ?_)
              replace h := h x8 hx
              clear hx
              refine a_istore_n (pc := 85) a (ls1 := [(3, vI x8), (6, vI x5), (5, vI x4), (0, Value.ref (ad 161)), (1, Value.ref (ad 163)), (2, Value.ref (ad 164)), (4, vI x2)]) dL_covered_85 rfl (by decide) rfl ?_
              refine a_iinc (pc := 86) a (ls1 := [(4, vI (x2 + 1)), (3, vI x8), (6, vI x5), (5, vI x4), (0, Value.ref (ad 161)), (1, Value.ref (ad 163)), (2, Value.ref (ad 164))]) 6 dL_covered_86 rfl (by decide) rfl ?_
              refine a_goto (pc := 89) a dL_covered_89 (tgt := 5) (by decide) ?_
              refine a_sub (ls1 := [(0, Value.ref (ad 161)), (1, Value.ref (ad 163)), (2, Value.ref (ad 164)), (3, vI x8), (4, vI (x2 + 1))]) [4, 5, 6, 1, 0] rfl ?_
              exact hag5 x8 (x2 + 1) h
            · replace h := h.2.2 hq
              clear hq
              refine a_iload (pc := 67) a 0 dL_covered_67 rfl ?_
              refine a_aload_n (pc := 69) a 4 dL_covered_69 rfl rfl ?_
              refine a_bipush (pc := 70) a dL_covered_70 (by decide) ?_
              refine a_iald (pc := 72) a (tw hinj w3) (by decide) (by decide) dL_covered_72 ?_
              refine a_icmp_ge (pc := 73) a h.1 h.2.1 dL_covered_73 (tgt := 83) (by decide) (fun hq => ?_) (fun hq => ?_)
              · replace h := h.2.2.1 hq
                clear hq
                refine a_iconst (pc := 83) a dL_covered_83 ?_
                refine a_ior (pc := 84) a dL_covered_84 ?_
                refine a_nm (fun x9 hx => ?_)
                replace h := h x9 hx
                clear hx
                refine a_istore_n (pc := 85) a (ls1 := [(3, vI x9), (6, vI x5), (5, vI x4), (0, Value.ref (ad 161)), (1, Value.ref (ad 163)), (2, Value.ref (ad 164)), (4, vI x2)]) dL_covered_85 rfl (by decide) rfl ?_
                refine a_iinc (pc := 86) a (ls1 := [(4, vI (x2 + 1)), (3, vI x9), (6, vI x5), (5, vI x4), (0, Value.ref (ad 161)), (1, Value.ref (ad 163)), (2, Value.ref (ad 164))]) 6 dL_covered_86 rfl (by decide) rfl ?_
                refine a_goto (pc := 89) a dL_covered_89 (tgt := 5) (by decide) ?_
                refine a_sub (ls1 := [(0, Value.ref (ad 161)), (1, Value.ref (ad 163)), (2, Value.ref (ad 164)), (3, vI x9), (4, vI (x2 + 1))]) [4, 5, 6, 1, 0] rfl ?_
                exact hag5 x9 (x2 + 1) h
              · replace h := h.2.2.2 hq
                clear hq
                refine a_iconst (pc := 76) a dL_covered_76 ?_
                refine a_iload (pc := 77) a 6 dL_covered_77 rfl ?_
                refine a_ishl (pc := 79) a dL_covered_79 ?_
                refine a_goto (pc := 80) a dL_covered_80 (tgt := 84) (by decide) ?_
                refine a_ior (pc := 84) a dL_covered_84 ?_
                refine a_nm (fun x10 hx => ?_)
                replace h := h x10 hx
                clear hx
                refine a_istore_n (pc := 85) a (ls1 := [(3, vI x10), (6, vI x5), (5, vI x4), (0, Value.ref (ad 161)), (1, Value.ref (ad 163)), (2, Value.ref (ad 164)), (4, vI x2)]) dL_covered_85 rfl (by decide) rfl ?_
                refine a_iinc (pc := 86) a (ls1 := [(4, vI (x2 + 1)), (3, vI x10), (6, vI x5), (5, vI x4), (0, Value.ref (ad 161)), (1, Value.ref (ad 163)), (2, Value.ref (ad 164))]) 6 dL_covered_86 rfl (by decide) rfl ?_
                refine a_goto (pc := 89) a dL_covered_89 (tgt := 5) (by decide) ?_
                refine a_sub (ls1 := [(0, Value.ref (ad 161)), (1, Value.ref (ad 163)), (2, Value.ref (ad 164)), (3, vI x10), (4, vI (x2 + 1))]) [4, 5, 6, 1, 0] rfl ?_
                exact hag5 x10 (x2 + 1) h

set_option maxRecDepth 100000 in
set_option maxHeartbeats 4000000 in
theorem c_L_place {l : Launch} {D : va_G} {X : XI} {ad : Nat → Nat} (hinj : adI ad) (hl0 : l.stackTraces = false) {p3 : Int}  {σ : St} {K : Int → Prop} (h : f_L_place p3 σ K) (sz : Nat) : Met l yL_place (WW (.code yL_place cL_place 10 (some .int))) { frames := 0, cells := 0, slots := 0, locals := 0 } (va_Pc [Value.ref (ad 161), Value.ref (ad 164), vI p3] (WD D X ad σ sz)) (QI D X ad sz (fun r τ => τ = σ ∧ K r)) 0 0 (AA ad sz) := by
  refine aM_start (cc := cL_place) (maxL := 10) (ret := (some .int)) (own := RL) [Value.ref (ad 161), Value.ref (ad 164), vI p3] (by decide) rfl rfl (Nat.le_of_ble_eq_true rfl) hinj hl0 ?_
  intro p e s m below meth c a hr hsz
  subst hsz
  have hts := a.1.2.2.2.2
  have w1 : tyc 161 (0, 15) := ⟨by decide, rfl⟩
  have w2 : tyc 164 (0, 64) := ⟨by decide, rfl⟩
  unfold f_L_place at h
  refine a_sub (ls1 := [(0, Value.ref (ad 161)), (1, Value.ref (ad 164)), (2, vI p3)]) [0, 1, 2] rfl ?_
  refine a_aload_n (pc := 0) a 1 dL_place_0 rfl rfl ?_
  refine a_iconst (pc := 1) a dL_place_1 ?_
  refine a_iald (pc := 2) a (tw hinj w2) (by decide) (by decide) dL_place_2 ?_
  refine a_aload_n (pc := 3) a 0 dL_place_3 rfl rfl ?_
  refine a_iconst (pc := 4) a dL_place_4 ?_
  refine a_iald (pc := 5) a (tw hinj w1) (by decide) (by decide) dL_place_5 ?_
  refine a_idiv (pc := 6) a dL_place_6 h.1 h.2.1 ?_
  replace h := h.2.2
  refine a_aload_n (pc := 7) a 1 dL_place_7 rfl rfl ?_
  refine a_iconst (pc := 8) a dL_place_8 ?_
  refine a_iald (pc := 9) a (tw hinj w2) (by decide) (by decide) dL_place_9 ?_
  refine a_aload_n (pc := 10) a 0 dL_place_10 rfl rfl ?_
  refine a_iconst (pc := 11) a dL_place_11 ?_
  refine a_iald (pc := 12) a (tw hinj w1) (by decide) (by decide) dL_place_12 ?_
  refine a_irem (pc := 13) a dL_place_13 h.1 h.2.1 ?_
  replace h := h.2.2
  refine g_wj1 22 0 0 (fun x2 => [(0, Value.ref (ad 161)), (1, Value.ref (ad 164)), (2, vI p3)]) (fun x2 => [vI x2, vI ((σ 164 0) / (σ 161 1))]) h ?_ ?_
  · clear h
    intro x2 h
    refine a_iadd (pc := 22) a dL_place_22 ?_
    refine a_nm (fun x3 hx => ?_)
    replace h := h x3 hx
    clear hx
    refine a_istore_n (pc := 23) a (ls1 := [(3, vI x3), (0, Value.ref (ad 161)), (1, Value.ref (ad 164)), (2, vI p3)]) dL_place_23 rfl (by decide) rfl ?_
    refine a_iconst (pc := 24) a dL_place_24 ?_
    refine a_istore (pc := 25) a (ls1 := [(4, vI 0), (3, vI x3), (0, Value.ref (ad 161)), (1, Value.ref (ad 164)), (2, vI p3)]) dL_place_25 (by decide) rfl ?_
    refine a_iconst (pc := 27) a dL_place_27 ?_
    refine a_istore (pc := 28) a (ls1 := [(5, vI 0), (4, vI 0), (3, vI x3), (0, Value.ref (ad 161)), (1, Value.ref (ad 164)), (2, vI p3)]) dL_place_28 (by decide) rfl ?_
    refine a_iconst (pc := 30) a dL_place_30 ?_
    refine a_istore (pc := 31) a (ls1 := [(6, vI 0), (5, vI 0), (4, vI 0), (3, vI x3), (0, Value.ref (ad 161)), (1, Value.ref (ad 164)), (2, vI p3)]) dL_place_31 (by decide) rfl ?_
    refine a_iconst (pc := 33) a dL_place_33 ?_
    refine a_istore (pc := 34) a (ls1 := [(7, vI 0), (6, vI 0), (5, vI 0), (4, vI 0), (3, vI x3), (0, Value.ref (ad 161)), (1, Value.ref (ad 164)), (2, vI p3)]) dL_place_34 (by decide) rfl ?_
    refine a_sub (ls1 := [(0, Value.ref (ad 161)), (1, Value.ref (ad 164)), (2, vI p3), (3, vI x3), (4, vI 0), (5, vI 0), (6, vI 0), (7, vI 0)]) [5, 6, 7, 4, 3, 2, 1, 0] rfl ?_
    refine g_wl4 (fun x4 x5 x6 x7 => [(0, Value.ref (ad 161)), (1, Value.ref (ad 164)), (2, vI p3), (3, vI x3), (4, vI x4), (5, vI x5), (6, vI x6), (7, vI x7)]) h ?_
    clear h
    intro x4 x5 x6 x7 ag36 hag36 h
    refine a_iload (pc := 36) a 7 dL_place_36 rfl ?_
    refine a_aload_n (pc := 38) a 1 dL_place_38 rfl rfl ?_
    refine a_iconst (pc := 39) a dL_place_39 ?_
    refine a_iald (pc := 40) a (tw hinj w2) (by decide) (by decide) dL_place_40 ?_
    refine a_icmp_ge (pc := 41) a h.1 h.2.1 dL_place_41 (tgt := 175) (by decide) (fun hq => ?_) (fun hq => ?_)
    · replace h := h.2.2.1 hq
      clear hq
      refine a_iload (pc := 175) a 4 dL_place_175 rfl ?_
      refine a_iconst (pc := 177) a dL_place_177 ?_
      refine a_iadd (pc := 178) a dL_place_178 ?_
      refine a_bipush (pc := 179) a dL_place_179 (by decide) ?_
      refine a_iload (pc := 181) a 6 dL_place_181 rfl ?_
      refine a_imul (pc := 183) a dL_place_183 ?_
      refine a_iadd (pc := 184) a dL_place_184 ?_
      exact e_i (pc := 185) a hr dL_place_185 ⟨rfl, h⟩
    · replace h := h.2.2.2 hq
      clear hq
      refine a_aload_n (pc := 44) a 1 dL_place_44 rfl rfl ?_
      refine a_bipush (pc := 45) a dL_place_45 (by decide) ?_
      refine a_iload (pc := 47) a 7 dL_place_47 rfl ?_
      refine a_iadd (pc := 49) a dL_place_49 ?_
      refine a_iald (pc := 50) a (tw hinj w2) (by decide) h.1 dL_place_50 ?_
      replace h := h.2
      refine a_sipush (pc := 51) a dL_place_51 (by decide) ?_
      refine a_idiv (pc := 54) a dL_place_54 h.1 (by decide) ?_
      replace h := h.2
      refine a_iconst (pc := 55) a dL_place_55 ?_
      refine g_wj1 64 0 0 (fun x9 => [(0, Value.ref (ad 161)), (1, Value.ref (ad 164)), (2, vI p3), (3, vI x3), (4, vI x4), (5, vI x5), (6, vI x6), (7, vI x7)]) (fun x9 => [vI x9]) h ?_ ?_
      · clear h
        intro x9 h
        refine a_istore (pc := 64) a (ls1 := [(8, vI x9), (0, Value.ref (ad 161)), (1, Value.ref (ad 164)), (2, vI p3), (3, vI x3), (4, vI x4), (5, vI x5), (6, vI x6), (7, vI x7)]) dL_place_64 (by decide) rfl ?_
        refine a_iload (pc := 66) a 5 dL_place_66 rfl ?_
        refine a_iconst (pc := 68) a dL_place_68 ?_
        refine a_iadd (pc := 69) a dL_place_69 ?_
        refine a_aload_n (pc := 70) a 1 dL_place_70 rfl rfl ?_
        refine a_iconst (pc := 71) a dL_place_71 ?_
        refine a_iald (pc := 72) a (tw hinj w1) (by decide) (by decide) dL_place_72 ?_
        refine g_wj1 105 0 0 (fun x13 => [(0, Value.ref (ad 161)), (1, Value.ref (ad 164)), (2, vI p3), (3, vI x3), (4, vI x4), (5, vI x5), (6, vI x6), (7, vI x7)]) (fun x13 => [vI x13]) h ?_ ?_
        · clear h
          intro x13 h
          refine a_istore (pc := 105) a (ls1 := [(9, vI x13), (0, Value.ref (ad 161)), (1, Value.ref (ad 164)), (2, vI p3), (3, vI x3), (4, vI x4), (5, vI x5), (6, vI x6), (7, vI x7)]) dL_place_105 (by decide) rfl ?_
          refine a_iload (pc := 107) a 5 dL_place_107 rfl ?_
          refine a_iload (pc := 109) a 0 dL_place_109 rfl ?_
          refine g_wj1 119 0 0 (fun x15 => [(0, Value.ref (ad 161)), (1, Value.ref (ad 164)), (2, vI p3), (3, vI x3), (5, vI x5), (6, vI x6), (7, vI x7), (9, vI x13)]) (fun x15 => [vI x15, vI x4]) h ?_ ?_
          · clear h
            intro x15 h
            refine a_iadd (pc := 119) a dL_place_119 ?_
            refine a_nm (fun x16 hx => ?_)
            replace h := h x16 hx
            clear hx
            refine a_istore (pc := 120) a (ls1 := [(4, vI x16), (0, Value.ref (ad 161)), (1, Value.ref (ad 164)), (2, vI p3), (3, vI x3), (5, vI x5), (6, vI x6), (7, vI x7), (9, vI x13)]) dL_place_120 (by decide) rfl ?_
            refine a_iload (pc := 122) a 8 dL_place_122 rfl ?_
            refine g_wj1 133 0 0 (fun x18 => [(0, Value.ref (ad 161)), (1, Value.ref (ad 164)), (2, vI p3), (3, vI x3), (4, vI x16), (6, vI x6), (7, vI x7)]) (fun x18 => [vI x18]) h ?_ ?_
            · clear h
              intro x18 h
              refine a_istore (pc := 133) a (ls1 := [(5, vI x18), (0, Value.ref (ad 161)), (1, Value.ref (ad 164)), (2, vI p3), (3, vI x3), (4, vI x16), (6, vI x6), (7, vI x7)]) dL_place_133 (by decide) rfl ?_
              refine a_iload (pc := 135) a 7 dL_place_135 rfl ?_
              refine a_iload_n (pc := 137) a 3 dL_place_137 rfl rfl ?_
              refine a_icmp_ne (pc := 138) a h.1 h.2.1 dL_place_138 (tgt := 150) (by decide) (fun hq => ?_) (fun hq => ?_)
              · replace h := h.2.2.1 hq
                clear hq
                refine a_iinc (pc := 150) a (ls1 := [(5, vI (x18 + 1)), (0, Value.ref (ad 161)), (1, Value.ref (ad 164)), (2, vI p3), (3, vI x3), (4, vI x16), (6, vI x6), (7, vI x7)]) 0 dL_place_150 rfl (by decide) rfl ?_
                refine a_iload (pc := 153) a 0 dL_place_153 rfl ?_
                refine a_iload (pc := 155) a 6 dL_place_155 rfl ?_
                refine a_icmp_le (pc := 157) a h.1 h.2.1 dL_place_157 (tgt := 165) (by decide) (fun hq => ?_) (fun hq => ?_)
                · replace h := h.2.2.1 hq
                  clear hq
                  refine a_iload (pc := 165) a 6 dL_place_165 rfl ?_
                  refine a_istore (pc := 167) a (ls1 := [(6, vI x6), (5, vI (x18 + 1)), (0, Value.ref (ad 161)), (1, Value.ref (ad 164)), (2, vI p3), (3, vI x3), (4, vI x16), (7, vI x7)]) dL_place_167 (by decide) rfl ?_
                  refine a_iinc (pc := 169) a (ls1 := [(7, vI (x7 + 1)), (6, vI x6), (5, vI (x18 + 1)), (0, Value.ref (ad 161)), (1, Value.ref (ad 164)), (2, vI p3), (3, vI x3), (4, vI x16)]) 7 dL_place_169 rfl (by decide) rfl ?_
                  refine a_goto (pc := 172) a dL_place_172 (tgt := 36) (by decide) ?_
                  refine a_sub (ls1 := [(0, Value.ref (ad 161)), (1, Value.ref (ad 164)), (2, vI p3), (3, vI x3), (4, vI x16), (5, vI (x18 + 1)), (6, vI x6), (7, vI (x7 + 1))]) [3, 4, 5, 6, 7, 2, 1, 0] rfl ?_
                  exact hag36 x16 (x18 + 1) x6 (x7 + 1) h
                · replace h := h.2.2.2 hq
                  clear hq
                  refine a_iload (pc := 160) a 0 dL_place_160 rfl ?_
                  refine a_goto (pc := 162) a dL_place_162 (tgt := 167) (by decide) ?_
                  refine a_nm (fun x19 hx => ?_)
                  replace h := h x19 hx
                  clear hx
                  refine a_istore (pc := 167) a (ls1 := [(6, vI x19), (5, vI (x18 + 1)), (0, Value.ref (ad 161)), (1, Value.ref (ad 164)), (2, vI p3), (3, vI x3), (4, vI x16), (7, vI x7)]) dL_place_167 (by decide) rfl ?_
                  refine a_iinc (pc := 169) a (ls1 := [(7, vI (x7 + 1)), (6, vI x19), (5, vI (x18 + 1)), (0, Value.ref (ad 161)), (1, Value.ref (ad 164)), (2, vI p3), (3, vI x3), (4, vI x16)]) 7 dL_place_169 rfl (by decide) rfl ?_
                  refine a_goto (pc := 172) a dL_place_172 (tgt := 36) (by decide) ?_
                  refine a_sub (ls1 := [(0, Value.ref (ad 161)), (1, Value.ref (ad 164)), (2, vI p3), (3, vI x3), (4, vI x16), (5, vI (x18 + 1)), (6, vI x19), (7, vI (x7 + 1))]) [3, 4, 5, 6, 7, 2, 1, 0] rfl ?_
                  exact hag36 x16 (x18 + 1) x19 (x7 + 1) h
              · replace h := h.2.2.2 hq
                clear hq
                refine a_iload (pc := 141) a 5 dL_place_141 rfl ?_
                refine a_bipush (pc := 143) a dL_place_143 (by decide) ?_
                refine a_iload (pc := 145) a 0 dL_place_145 rfl ?_
                refine a_imul (pc := 147) a dL_place_147 ?_
                refine a_iadd (pc := 148) a dL_place_148 ?_
                exact e_i (pc := 149) a hr dL_place_149 ⟨rfl, h⟩
            · clear h
              intro jj133 hjj133 h
              refine a_if_eq (pc := 124) a h.1 dL_place_124 (tgt := 131) (by decide) (fun hq => ?_) (fun hq => ?_)
              · replace h := h.2.1 hq
                clear hq
                refine a_iload (pc := 131) a 5 dL_place_131 rfl ?_
                refine a_sub (ls1 := [(0, Value.ref (ad 161)), (1, Value.ref (ad 164)), (2, vI p3), (3, vI x3), (4, vI x16), (6, vI x6), (7, vI x7)]) [1, 2, 3, 4, 0, 6, 7] rfl ?_
                exact hjj133 x5 h
              · replace h := h.2.2 hq
                clear hq
                refine a_iconst (pc := 127) a dL_place_127 ?_
                refine a_goto (pc := 128) a dL_place_128 (tgt := 133) (by decide) ?_
                refine a_sub (ls1 := [(0, Value.ref (ad 161)), (1, Value.ref (ad 164)), (2, vI p3), (3, vI x3), (4, vI x16), (6, vI x6), (7, vI x7)]) [1, 2, 3, 4, 0, 6, 7] rfl ?_
                exact hjj133 0 h
          · clear h
            intro jj119 hjj119 h
            refine a_if_eq (pc := 111) a h.1 dL_place_111 (tgt := 118) (by decide) (fun hq => ?_) (fun hq => ?_)
            · replace h := h.2.1 hq
              clear hq
              refine a_iconst (pc := 118) a dL_place_118 ?_
              refine a_sub (ls1 := [(0, Value.ref (ad 161)), (1, Value.ref (ad 164)), (2, vI p3), (3, vI x3), (5, vI x5), (6, vI x6), (7, vI x7), (9, vI x13)]) [1, 2, 3, 4, 6, 7, 8, 0] rfl ?_
              exact hjj119 0 h
            · replace h := h.2.2 hq
              clear hq
              refine a_iconst (pc := 114) a dL_place_114 ?_
              refine a_goto (pc := 115) a dL_place_115 (tgt := 119) (by decide) ?_
              refine a_sub (ls1 := [(0, Value.ref (ad 161)), (1, Value.ref (ad 164)), (2, vI p3), (3, vI x3), (5, vI x5), (6, vI x6), (7, vI x7), (9, vI x13)]) [1, 2, 3, 4, 6, 7, 8, 0] rfl ?_
              exact hjj119 1 h
        · clear h
          intro jj105 hjj105 h
          refine g_wj0 104 0 0 [(0, Value.ref (ad 161)), (1, Value.ref (ad 164)), (2, vI p3), (3, vI x3), (4, vI x4), (5, vI x5), (6, vI x6), (7, vI x7)] [] h ?_ ?_
          · clear h
            intro  h
            refine a_iconst (pc := 104) a dL_place_104 ?_
            exact hjj105 0 h
          · clear h
            intro jj104 hjj104 h
            refine a_icmp_ge (pc := 73) a h.1 h.2.1 dL_place_73 (tgt := 104) (by decide) (fun hq => ?_) (fun hq => ?_)
            · replace h := h.2.2.1 hq
              clear hq
              refine a_sub (ls1 := [(0, Value.ref (ad 161)), (1, Value.ref (ad 164)), (2, vI p3), (3, vI x3), (4, vI x4), (5, vI x5), (6, vI x6), (7, vI x7)]) [1, 2, 3, 4, 5, 6, 7, 8] rfl ?_
              exact hjj104  h
            · replace h := h.2.2.2 hq
              clear hq
              refine a_iload (pc := 76) a 6 dL_place_76 rfl ?_
              refine a_iload_n (pc := 78) a 4 dL_place_78 rfl rfl ?_
              refine g_wj0 100 0 0 [(0, Value.ref (ad 161)), (1, Value.ref (ad 164)), (2, vI p3), (3, vI x3), (4, vI x4), (5, vI x5), (6, vI x6), (7, vI x7)] [] h ?_ ?_
              · clear h
                intro  h
                refine a_iconst (pc := 100) a dL_place_100 ?_
                refine a_goto (pc := 101) a dL_place_101 (tgt := 105) (by decide) ?_
                exact hjj105 1 h
              · clear h
                intro jj100 hjj100 h
                refine a_icmp_ge (pc := 79) a h.1 h.2.1 dL_place_79 (tgt := 100) (by decide) (fun hq => ?_) (fun hq => ?_)
                · replace h := h.2.2.1 hq
                  clear hq
                  refine a_sub (ls1 := [(0, Value.ref (ad 161)), (1, Value.ref (ad 164)), (2, vI p3), (3, vI x3), (4, vI x4), (5, vI x5), (6, vI x6), (7, vI x7)]) [1, 2, 3, 4, 5, 6, 7, 8] rfl ?_
                  exact hjj100  h
                · replace h := h.2.2.2 hq
                  clear hq
                  refine a_iload (pc := 82) a 0 dL_place_82 rfl ?_
                  refine a_if_eq (pc := 84) a h.1 dL_place_84 (tgt := 104) (by decide) (fun hq => ?_) (fun hq => ?_)
                  · replace h := h.2.1 hq
                    clear hq
                    refine a_sub (ls1 := [(0, Value.ref (ad 161)), (1, Value.ref (ad 164)), (2, vI p3), (3, vI x3), (4, vI x4), (5, vI x5), (6, vI x6), (7, vI x7)]) [1, 2, 3, 4, 5, 6, 7, 8] rfl ?_
                    exact hjj104  h
                  · replace h := h.2.2 hq
                    clear hq
                    refine a_iload (pc := 87) a 6 dL_place_87 rfl ?_
                    refine a_if_le (pc := 89) a h.1 dL_place_89 (tgt := 104) (by decide) (fun hq => ?_) (fun hq => ?_)
                    · replace h := h.2.1 hq
                      clear hq
                      refine a_sub (ls1 := [(0, Value.ref (ad 161)), (1, Value.ref (ad 164)), (2, vI p3), (3, vI x3), (4, vI x4), (5, vI x5), (6, vI x6), (7, vI x7)]) [1, 2, 3, 4, 5, 6, 7, 8] rfl ?_
                      exact hjj104  h
                    · replace h := h.2.2 hq
                      clear hq
                      refine a_iload (pc := 92) a 6 dL_place_92 rfl ?_
                      refine a_iload_n (pc := 94) a 4 dL_place_94 rfl rfl ?_
                      refine a_iconst (pc := 95) a dL_place_95 ?_
                      refine a_isub (pc := 96) a dL_place_96 ?_
                      refine a_icmp_lt (pc := 97) a h.1 h.2.1 dL_place_97 (tgt := 104) (by decide) (fun hq => ?_) (fun hq => ?_)
                      · replace h := h.2.2.1 hq
                        clear hq
                        refine a_sub (ls1 := [(0, Value.ref (ad 161)), (1, Value.ref (ad 164)), (2, vI p3), (3, vI x3), (4, vI x4), (5, vI x5), (6, vI x6), (7, vI x7)]) [1, 2, 3, 4, 5, 6, 7, 8] rfl ?_
                        exact hjj104  h
                      · replace h := h.2.2.2 hq
                        clear hq
                        refine a_sub (ls1 := [(0, Value.ref (ad 161)), (1, Value.ref (ad 164)), (2, vI p3), (3, vI x3), (4, vI x4), (5, vI x5), (6, vI x6), (7, vI x7)]) [1, 2, 3, 4, 5, 6, 7, 8] rfl ?_
                        exact hjj100  h
      · clear h
        intro jj64 hjj64 h
        refine a_icmp_ne (pc := 56) a h.1 ⟨by decide, by decide⟩ dL_place_56 (tgt := 63) (by decide) (fun hq => ?_) (fun hq => ?_)
        · replace h := h.2.1 hq
          clear hq
          refine a_iconst (pc := 63) a dL_place_63 ?_
          exact hjj64 0 h
        · replace h := h.2.2 hq
          clear hq
          refine a_iconst (pc := 59) a dL_place_59 ?_
          refine a_goto (pc := 60) a dL_place_60 (tgt := 64) (by decide) ?_
          exact hjj64 1 h
  · clear h
    intro jj22 hjj22 h
    refine a_if_le (pc := 14) a h.1 dL_place_14 (tgt := 21) (by decide) (fun hq => ?_) (fun hq => ?_)
    · replace h := h.2.1 hq
      clear hq
      refine a_iconst (pc := 21) a dL_place_21 ?_
      exact hjj22 0 h
    · replace h := h.2.2 hq
      clear hq
      refine a_iconst (pc := 17) a dL_place_17 ?_
      refine a_goto (pc := 18) a dL_place_18 (tgt := 22) (by decide) ?_
      exact hjj22 1 h

set_option maxRecDepth 100000 in
set_option maxHeartbeats 4000000 in
theorem c_L_box {l : Launch} {D : va_G} {X : XI} {ad : Nat → Nat} (hinj : adI ad) (hl0 : l.stackTraces = false)   {σ : St} {K : St → Prop} (h : f_L_box σ K) (sz : Nat) : Met l yL_box (WW (.code yL_box cL_box 8 none)) { frames := 3, cells := 0, slots := 0, locals := 71 } (va_Pc [Value.ref (ad 161), Value.ref (ad 163), Value.ref (ad 164)] (WD D X ad σ sz)) (QV D X ad sz K) 0 0 (AA ad sz) := by
  refine aM_start (cc := cL_box) (maxL := 8) (ret := none) (own := RL) [Value.ref (ad 161), Value.ref (ad 163), Value.ref (ad 164)] (by decide) rfl rfl (Nat.le_of_ble_eq_true rfl) hinj hl0 ?_
  intro p e s m below meth c a hr hsz
  subst hsz
  have hts := a.1.2.2.2.2
  have w1 : tyc 161 (0, 15) := ⟨by decide, rfl⟩
  have w2 : tyc 163 (0, 60) := ⟨by decide, rfl⟩
  have w3 : tyc 164 (0, 64) := ⟨by decide, rfl⟩
  unfold f_L_box at h
  refine a_sub (ls1 := [(0, Value.ref (ad 161)), (1, Value.ref (ad 163)), (2, Value.ref (ad 164))]) [0, 1, 2] rfl ?_
  refine a_aload_n (pc := 0) a 2 dL_box_0 rfl rfl ?_
  refine a_iconst (pc := 1) a dL_box_1 ?_
  refine a_iconst (pc := 2) a dL_box_2 ?_
  refine a_iast (pc := 3) a (tw hinj w3) (by decide) (by decide) dL_box_3 ?_
  refine a_nmS (fun s1 hx => ?_)
  replace h := h s1 hx
  clear hx
  refine a_aload_n (pc := 4) a 2 dL_box_4 rfl rfl ?_
  refine a_iconst (pc := 5) a dL_box_5 ?_
  refine a_iald (pc := 6) a (tw hinj w3) (by decide) (by decide) dL_box_6 ?_
  refine a_if_ne (pc := 7) a h.1 dL_box_7 (tgt := 11) (by decide) (fun hq => ?_) (fun hq => ?_)
  · replace h := h.2.1 hq
    clear hq
    refine a_aload_n (pc := 11) a 0 dL_box_11 rfl rfl ?_
    refine a_aload_n (pc := 12) a 2 dL_box_12 rfl rfl ?_
    refine a_aload_n (pc := 13) a 2 dL_box_13 rfl rfl ?_
    refine a_iconst (pc := 14) a dL_box_14 ?_
    refine a_iald (pc := 15) a (tw hinj w3) (by decide) (by decide) dL_box_15 ?_
    refine a_csi (pc := 16) a (As := [Value.ref (ad 161), Value.ref (ad 164), vI (s1 164 0)]) (rest := []) (fun sz => c_L_place hinj hl0  h sz) (va_cwS 3 hts (gl_S (GL_6 _ (by decide +kernel)) (GL_7 _ (by decide +kernel)) (GL_4 _ (by decide +kernel)) (GL_7 _ (by decide +kernel))) rfl rfl rfl (by decide +kernel) ⟨Nat.le_of_ble_eq_true rfl, Nat.le_of_ble_eq_true rfl⟩) rfl rfl (Nat.le_of_ble_eq_true rfl) ⟨Nat.le_of_ble_eq_true rfl, Nat.le_of_ble_eq_true rfl⟩ dL_box_16 ?_
    rintro x2 s9 ⟨hs9, h9⟩
    subst s9
    replace h := h9
    clear h9
    refine a_istore_n (pc := 19) a (ls1 := [(3, vI x2), (0, Value.ref (ad 161)), (1, Value.ref (ad 163)), (2, Value.ref (ad 164))]) dL_box_19 rfl (by decide) rfl ?_
    refine a_aload_n (pc := 20) a 3 dL_box_20 rfl rfl ?_
    refine a_bipush (pc := 21) a dL_box_21 (by decide) ?_
    refine a_iload_n (pc := 23) a 0 dL_box_23 rfl rfl ?_
    refine a_bipush (pc := 24) a dL_box_24 (by decide) ?_
    refine a_irem (pc := 26) a dL_box_26 h.1 (by decide) ?_
    replace h := h.2
    refine a_aload_n (pc := 27) a 1 dL_box_27 rfl rfl ?_
    refine a_iconst (pc := 28) a dL_box_28 ?_
    refine a_iald (pc := 29) a (tw hinj w1) (by decide) (by decide) dL_box_29 ?_
    refine a_imul (pc := 30) a dL_box_30 ?_
    refine a_iast (pc := 31) a (tw hinj w3) (by decide) (by decide) dL_box_31 ?_
    refine a_nmS (fun s3 hx => ?_)
    replace h := h s3 hx
    clear hx
    refine a_aload_n (pc := 32) a 3 dL_box_32 rfl rfl ?_
    refine a_bipush (pc := 33) a dL_box_33 (by decide) ?_
    refine a_aload_n (pc := 35) a 3 dL_box_35 rfl rfl ?_
    refine a_bipush (pc := 36) a dL_box_36 (by decide) ?_
    refine a_iald (pc := 38) a (tw hinj w3) (by decide) (by decide) dL_box_38 ?_
    refine a_aload_n (pc := 39) a 1 dL_box_39 rfl rfl ?_
    refine a_bipush (pc := 40) a dL_box_40 (by decide) ?_
    refine a_iald (pc := 42) a (tw hinj w1) (by decide) (by decide) dL_box_42 ?_
    refine g_wj1 57 0 0 (fun x5 => [(0, Value.ref (ad 161)), (1, Value.ref (ad 163)), (2, Value.ref (ad 164)), (3, vI x2)]) (fun x5 => [vI x5, vI 7, Value.ref (ad 164)]) h ?_ ?_
    · clear h
      intro x5 h
      refine a_iast (pc := 57) a (tw hinj w3) (by decide) (by decide) dL_box_57 ?_
      refine a_nmS (fun s6 hx => ?_)
      replace h := h s6 hx
      clear hx
      refine a_aload_n (pc := 58) a 2 dL_box_58 rfl rfl ?_
      refine a_bipush (pc := 59) a dL_box_59 (by decide) ?_
      refine a_iload_n (pc := 61) a 3 dL_box_61 rfl rfl ?_
      refine a_bipush (pc := 62) a dL_box_62 (by decide) ?_
      refine a_idiv (pc := 64) a dL_box_64 h.1 (by decide) ?_
      replace h := h.2
      refine a_aload_n (pc := 65) a 0 dL_box_65 rfl rfl ?_
      refine a_iconst (pc := 66) a dL_box_66 ?_
      refine a_iald (pc := 67) a (tw hinj w1) (by decide) (by decide) dL_box_67 ?_
      refine a_imul (pc := 68) a dL_box_68 ?_
      refine a_iast (pc := 69) a (tw hinj w3) (by decide) (by decide) dL_box_69 ?_
      refine a_nmS (fun s7 hx => ?_)
      replace h := h s7 hx
      clear hx
      refine a_aload_n (pc := 70) a 2 dL_box_70 rfl rfl ?_
      refine a_bipush (pc := 71) a dL_box_71 (by decide) ?_
      refine a_aload_n (pc := 73) a 2 dL_box_73 rfl rfl ?_
      refine a_bipush (pc := 74) a dL_box_74 (by decide) ?_
      refine a_iald (pc := 76) a (tw hinj w3) (by decide) (by decide) dL_box_76 ?_
      refine a_aload_n (pc := 77) a 0 dL_box_77 rfl rfl ?_
      refine a_bipush (pc := 78) a dL_box_78 (by decide) ?_
      refine a_iald (pc := 80) a (tw hinj w1) (by decide) (by decide) dL_box_80 ?_
      refine g_wj1 95 0 0 (fun x9 => [(0, Value.ref (ad 161)), (1, Value.ref (ad 163)), (2, Value.ref (ad 164))]) (fun x9 => [vI x9, vI 8, Value.ref (ad 164)]) h ?_ ?_
      · clear h
        intro x9 h
        refine a_iast (pc := 95) a (tw hinj w3) (by decide) (by decide) dL_box_95 ?_
        refine a_nmS (fun s10 hx => ?_)
        replace h := h s10 hx
        clear hx
        refine a_iconst (pc := 96) a dL_box_96 ?_
        refine a_istore (pc := 97) a (ls1 := [(4, vI (-1)), (0, Value.ref (ad 161)), (1, Value.ref (ad 163)), (2, Value.ref (ad 164))]) dL_box_97 (by decide) rfl ?_
        refine a_bipush (pc := 99) a dL_box_99 (by decide) ?_
        refine a_istore (pc := 101) a (ls1 := [(5, vI 99), (4, vI (-1)), (0, Value.ref (ad 161)), (1, Value.ref (ad 163)), (2, Value.ref (ad 164))]) dL_box_101 (by decide) rfl ?_
        refine a_iconst (pc := 103) a dL_box_103 ?_
        refine a_istore (pc := 104) a (ls1 := [(6, vI 0), (5, vI 99), (4, vI (-1)), (0, Value.ref (ad 161)), (1, Value.ref (ad 163)), (2, Value.ref (ad 164))]) dL_box_104 (by decide) rfl ?_
        refine a_sub (ls1 := [(0, Value.ref (ad 161)), (1, Value.ref (ad 163)), (2, Value.ref (ad 164)), (4, vI (-1)), (5, vI 99), (6, vI 0)]) [3, 4, 5, 2, 1, 0] rfl ?_
        refine g_wl3s (fun x11 x12 x13 => [(0, Value.ref (ad 161)), (1, Value.ref (ad 163)), (2, Value.ref (ad 164)), (4, vI x11), (5, vI x12), (6, vI x13)]) h ?_
        clear h
        intro x11 x12 x13 s14 ag106 hag106 h
        refine a_iload (pc := 106) a 5 dL_box_106 rfl ?_
        refine a_iconst (pc := 108) a dL_box_108 ?_
        refine a_icmp_ge (pc := 109) a h.1 ⟨by decide, by decide⟩ dL_box_109 (tgt := 244) (by decide) (fun hq => ?_) (fun hq => ?_)
        · replace h := h.2.1 hq
          clear hq
          exact e_v (pc := 244) a hr dL_box_244 h
        · replace h := h.2.2 hq
          clear hq
          refine a_aload_n (pc := 112) a 2 dL_box_112 rfl rfl ?_
          refine a_iconst (pc := 113) a dL_box_113 ?_
          refine a_iload (pc := 114) a 5 dL_box_114 rfl ?_
          refine a_iconst (pc := 116) a dL_box_116 ?_
          refine g_wj1 127 0 0 (fun x16 => [(0, Value.ref (ad 161)), (1, Value.ref (ad 163)), (2, Value.ref (ad 164)), (4, vI x11), (5, vI x12), (6, vI x13)]) (fun x16 => [vI x16, vI 4, Value.ref (ad 164)]) h ?_ ?_
          · clear h
            intro x16 h
            refine a_iast (pc := 127) a (tw hinj w3) (by decide) (by decide) dL_box_127 ?_
            refine a_nmS (fun s17 hx => ?_)
            replace h := h s17 hx
            clear hx
            refine a_aload_n (pc := 128) a 2 dL_box_128 rfl rfl ?_
            refine a_iconst (pc := 129) a dL_box_129 ?_
            refine a_aload_n (pc := 130) a 2 dL_box_130 rfl rfl ?_
            refine a_iconst (pc := 131) a dL_box_131 ?_
            refine a_iald (pc := 132) a (tw hinj w3) (by decide) (by decide) dL_box_132 ?_
            refine a_iconst (pc := 133) a dL_box_133 ?_
            refine a_irem (pc := 134) a dL_box_134 h.1 (by decide) ?_
            replace h := h.2
            refine a_iconst (pc := 135) a dL_box_135 ?_
            refine g_wj1 158 0 0 (fun x19 => [(0, Value.ref (ad 161)), (1, Value.ref (ad 163)), (2, Value.ref (ad 164)), (4, vI x11), (5, vI x12), (6, vI x13)]) (fun x19 => [vI x19, vI 5, Value.ref (ad 164)]) h ?_ ?_
            · clear h
              intro x19 h
              refine a_iast (pc := 158) a (tw hinj w3) (by decide) (by decide) dL_box_158 ?_
              refine a_nmS (fun s20 hx => ?_)
              replace h := h s20 hx
              clear hx
              refine a_aload_n (pc := 159) a 2 dL_box_159 rfl rfl ?_
              refine a_bipush (pc := 160) a dL_box_160 (by decide) ?_
              refine a_aload_n (pc := 162) a 2 dL_box_162 rfl rfl ?_
              refine a_iconst (pc := 163) a dL_box_163 ?_
              refine a_iald (pc := 164) a (tw hinj w3) (by decide) (by decide) dL_box_164 ?_
              refine a_iconst (pc := 165) a dL_box_165 ?_
              refine g_wj1 188 0 0 (fun x22 => [(0, Value.ref (ad 161)), (1, Value.ref (ad 163)), (2, Value.ref (ad 164)), (4, vI x11), (5, vI x12), (6, vI x13)]) (fun x22 => [vI x22, vI 6, Value.ref (ad 164)]) h ?_ ?_
              · clear h
                intro x22 h
                refine a_iast (pc := 188) a (tw hinj w3) (by decide) (by decide) dL_box_188 ?_
                refine a_nmS (fun s23 hx => ?_)
                replace h := h s23 hx
                clear hx
                refine a_aload_n (pc := 189) a 0 dL_box_189 rfl rfl ?_
                refine a_aload_n (pc := 190) a 1 dL_box_190 rfl rfl ?_
                refine a_aload_n (pc := 191) a 2 dL_box_191 rfl rfl ?_
                refine a_csi (pc := 192) a (As := [Value.ref (ad 161), Value.ref (ad 163), Value.ref (ad 164)]) (rest := []) (fun sz => c_L_covered hinj hl0  h sz) (va_cwS 3 hts (gl_S (GL_5 _ (by decide +kernel)) (GL_5 _ (by decide +kernel)) (GL_4 _ (by decide +kernel)) (GL_5 _ (by decide +kernel))) rfl rfl rfl (by decide +kernel) ⟨Nat.le_of_ble_eq_true rfl, Nat.le_of_ble_eq_true rfl⟩) rfl rfl (Nat.le_of_ble_eq_true rfl) ⟨Nat.le_of_ble_eq_true rfl, Nat.le_of_ble_eq_true rfl⟩ dL_box_192 ?_
                rintro x24 s9 ⟨hs9, h9⟩
                subst s9
                replace h := h9
                clear h9
                refine a_csi (pc := 195) a (As := [vI x24]) (rest := []) (fun sz => c_L_bits hinj hl0  h sz) (va_cwS 1 hts (gl_S (GL_5 _ (by decide +kernel)) (GL_5 _ (by decide +kernel)) (GL_4 _ (by decide +kernel)) (GL_5 _ (by decide +kernel))) rfl rfl rfl (by decide +kernel) ⟨Nat.le_of_ble_eq_true rfl, Nat.le_of_ble_eq_true rfl⟩) rfl rfl (Nat.le_of_ble_eq_true rfl) ⟨Nat.le_of_ble_eq_true rfl, Nat.le_of_ble_eq_true rfl⟩ dL_box_195 ?_
                rintro x25 s9 ⟨hs9, h9⟩
                subst s9
                replace h := h9
                clear h9
                refine a_istore (pc := 198) a (ls1 := [(7, vI x25), (0, Value.ref (ad 161)), (1, Value.ref (ad 163)), (2, Value.ref (ad 164)), (4, vI x11), (5, vI x12), (6, vI x13)]) dL_box_198 (by decide) rfl ?_
                refine a_iload (pc := 200) a 6 dL_box_200 rfl ?_
                refine a_iconst (pc := 202) a dL_box_202 ?_
                refine g_wj1 220 0 0 (fun x28 => [(0, Value.ref (ad 161)), (1, Value.ref (ad 163)), (2, Value.ref (ad 164)), (5, vI x12), (6, vI x13), (7, vI x25)]) (fun x28 => [vI x28]) h ?_ ?_
                · clear h
                  intro x28 h
                  refine a_istore (pc := 220) a (ls1 := [(4, vI x28), (0, Value.ref (ad 161)), (1, Value.ref (ad 163)), (2, Value.ref (ad 164)), (5, vI x12), (6, vI x13), (7, vI x25)]) dL_box_220 (by decide) rfl ?_
                  refine a_iload (pc := 222) a 6 dL_box_222 rfl ?_
                  refine a_iload (pc := 224) a 4 dL_box_224 rfl ?_
                  refine a_icmp_ge (pc := 226) a h.1 h.2.1 dL_box_226 (tgt := 234) (by decide) (fun hq => ?_) (fun hq => ?_)
                  · replace h := h.2.2.1 hq
                    clear hq
                    refine a_iload (pc := 234) a 4 dL_box_234 rfl ?_
                    refine a_istore (pc := 236) a (ls1 := [(5, vI x12), (4, vI x28), (0, Value.ref (ad 161)), (1, Value.ref (ad 163)), (2, Value.ref (ad 164)), (6, vI x13), (7, vI x25)]) dL_box_236 (by decide) rfl ?_
                    refine a_iinc (pc := 238) a (ls1 := [(6, vI (x13 + 1)), (5, vI x12), (4, vI x28), (0, Value.ref (ad 161)), (1, Value.ref (ad 163)), (2, Value.ref (ad 164)), (7, vI x25)]) 5 dL_box_238 rfl (by decide) rfl ?_
                    refine a_goto (pc := 241) a dL_box_241 (tgt := 106) (by decide) ?_
                    refine a_sub (ls1 := [(0, Value.ref (ad 161)), (1, Value.ref (ad 163)), (2, Value.ref (ad 164)), (4, vI x28), (5, vI x12), (6, vI (x13 + 1))]) [3, 4, 5, 2, 1, 0] rfl ?_
                    exact hag106 x28 x12 (x13 + 1) s23 h
                  · replace h := h.2.2.2 hq
                    clear hq
                    refine a_iload (pc := 229) a 6 dL_box_229 rfl ?_
                    refine a_goto (pc := 231) a dL_box_231 (tgt := 236) (by decide) ?_
                    refine a_istore (pc := 236) a (ls1 := [(5, vI x25), (4, vI x28), (0, Value.ref (ad 161)), (1, Value.ref (ad 163)), (2, Value.ref (ad 164)), (6, vI x13), (7, vI x25)]) dL_box_236 (by decide) rfl ?_
                    refine a_iinc (pc := 238) a (ls1 := [(6, vI (x13 + 1)), (5, vI x25), (4, vI x28), (0, Value.ref (ad 161)), (1, Value.ref (ad 163)), (2, Value.ref (ad 164)), (7, vI x25)]) 5 dL_box_238 rfl (by decide) rfl ?_
                    refine a_goto (pc := 241) a dL_box_241 (tgt := 106) (by decide) ?_
                    refine a_sub (ls1 := [(0, Value.ref (ad 161)), (1, Value.ref (ad 163)), (2, Value.ref (ad 164)), (4, vI x28), (5, vI x25), (6, vI (x13 + 1))]) [3, 4, 5, 2, 1, 0] rfl ?_
                    exact hag106 x28 x25 (x13 + 1) s23 h
                · clear h
                  intro jj220 hjj220 h
                  refine g_wj0 218 0 0 [(0, Value.ref (ad 161)), (1, Value.ref (ad 163)), (2, Value.ref (ad 164)), (4, vI x11), (5, vI x12), (6, vI x13), (7, vI x25)] [] h ?_ ?_
                  · clear h
                    intro  h
                    refine a_iload (pc := 218) a 3 dL_box_218 rfl ?_
                    refine a_sub (ls1 := [(0, Value.ref (ad 161)), (1, Value.ref (ad 163)), (2, Value.ref (ad 164)), (5, vI x12), (6, vI x13), (7, vI x25)]) [0, 1, 2, 4, 5, 6] rfl ?_
                    exact hjj220 x11 h
                  · clear h
                    intro jj218 hjj218 h
                    refine a_icmp_ge (pc := 203) a h.1 ⟨by decide, by decide⟩ dL_box_203 (tgt := 218) (by decide) (fun hq => ?_) (fun hq => ?_)
                    · replace h := h.2.1 hq
                      clear hq
                      refine a_sub (ls1 := [(0, Value.ref (ad 161)), (1, Value.ref (ad 163)), (2, Value.ref (ad 164)), (4, vI x11), (5, vI x12), (6, vI x13), (7, vI x25)]) [1, 2, 3, 4, 5, 6, 0] rfl ?_
                      refine a_wid 0 0 (by omega) (by omega) ?_
                      exact hjj218  h
                    · replace h := h.2.2 hq
                      clear hq
                      refine a_iload (pc := 206) a 0 dL_box_206 rfl ?_
                      refine a_iload (pc := 208) a 5 dL_box_208 rfl ?_
                      refine a_icmp_ge (pc := 210) a h.1 h.2.1 dL_box_210 (tgt := 218) (by decide) (fun hq => ?_) (fun hq => ?_)
                      · replace h := h.2.2.1 hq
                        clear hq
                        refine a_sub (ls1 := [(0, Value.ref (ad 161)), (1, Value.ref (ad 163)), (2, Value.ref (ad 164)), (4, vI x11), (5, vI x12), (6, vI x13), (7, vI x25)]) [1, 2, 3, 4, 5, 6, 0] rfl ?_
                        refine a_wid 0 0 (by omega) (by omega) ?_
                        exact hjj218  h
                      · replace h := h.2.2.2 hq
                        clear hq
                        refine a_iload (pc := 213) a 6 dL_box_213 rfl ?_
                        refine a_goto (pc := 215) a dL_box_215 (tgt := 220) (by decide) ?_
                        refine a_sub (ls1 := [(0, Value.ref (ad 161)), (1, Value.ref (ad 163)), (2, Value.ref (ad 164)), (5, vI x12), (6, vI x13), (7, vI x25)]) [1, 2, 3, 5, 6, 0] rfl ?_
                        refine a_wid 0 0 (by omega) (by omega) ?_
                        exact hjj220 x13 h
              · clear h
                intro jj188 hjj188 h
                refine a_icmp_le (pc := 166) a h.1 ⟨by decide, by decide⟩ dL_box_166 (tgt := 185) (by decide) (fun hq => ?_) (fun hq => ?_)
                · replace h := h.2.1 hq
                  clear hq
                  refine a_aload_n (pc := 185) a 0 dL_box_185 rfl rfl ?_
                  refine a_iconst (pc := 186) a dL_box_186 ?_
                  refine a_iald (pc := 187) a (tw hinj w1) (by decide) (by decide) dL_box_187 ?_
                  exact hjj188 (s20 161 5) h
                · replace h := h.2.2 hq
                  clear hq
                  refine a_aload_n (pc := 169) a 0 dL_box_169 rfl rfl ?_
                  refine a_iconst (pc := 170) a dL_box_170 ?_
                  refine a_iald (pc := 171) a (tw hinj w1) (by decide) (by decide) dL_box_171 ?_
                  refine a_aload_n (pc := 172) a 0 dL_box_172 rfl rfl ?_
                  refine a_bipush (pc := 173) a dL_box_173 (by decide) ?_
                  refine a_iald (pc := 175) a (tw hinj w1) (by decide) (by decide) dL_box_175 ?_
                  refine a_iadd (pc := 176) a dL_box_176 ?_
                  refine a_aload_n (pc := 177) a 2 dL_box_177 rfl rfl ?_
                  refine a_bipush (pc := 178) a dL_box_178 (by decide) ?_
                  refine a_iald (pc := 180) a (tw hinj w3) (by decide) (by decide) dL_box_180 ?_
                  refine a_isub (pc := 181) a dL_box_181 ?_
                  refine a_goto (pc := 182) a dL_box_182 (tgt := 188) (by decide) ?_
                  exact hjj188 (((s20 161 5) + (s20 161 7)) - (s20 164 8)) h
            · clear h
              intro jj158 hjj158 h
              refine a_icmp_ne (pc := 136) a h.1 ⟨by decide, by decide⟩ dL_box_136 (tgt := 155) (by decide) (fun hq => ?_) (fun hq => ?_)
              · replace h := h.2.1 hq
                clear hq
                refine a_aload_n (pc := 155) a 0 dL_box_155 rfl rfl ?_
                refine a_iconst (pc := 156) a dL_box_156 ?_
                refine a_iald (pc := 157) a (tw hinj w1) (by decide) (by decide) dL_box_157 ?_
                exact hjj158 (s17 161 4) h
              · replace h := h.2.2 hq
                clear hq
                refine a_aload_n (pc := 139) a 0 dL_box_139 rfl rfl ?_
                refine a_iconst (pc := 140) a dL_box_140 ?_
                refine a_iald (pc := 141) a (tw hinj w1) (by decide) (by decide) dL_box_141 ?_
                refine a_aload_n (pc := 142) a 0 dL_box_142 rfl rfl ?_
                refine a_bipush (pc := 143) a dL_box_143 (by decide) ?_
                refine a_iald (pc := 145) a (tw hinj w1) (by decide) (by decide) dL_box_145 ?_
                refine a_iadd (pc := 146) a dL_box_146 ?_
                refine a_aload_n (pc := 147) a 2 dL_box_147 rfl rfl ?_
                refine a_bipush (pc := 148) a dL_box_148 (by decide) ?_
                refine a_iald (pc := 150) a (tw hinj w3) (by decide) (by decide) dL_box_150 ?_
                refine a_isub (pc := 151) a dL_box_151 ?_
                refine a_goto (pc := 152) a dL_box_152 (tgt := 158) (by decide) ?_
                exact hjj158 (((s17 161 4) + (s17 161 6)) - (s17 164 7)) h
          · clear h
            intro jj127 hjj127 h
            refine a_icmp_ne (pc := 117) a h.1 ⟨by decide, by decide⟩ dL_box_117 (tgt := 125) (by decide) (fun hq => ?_) (fun hq => ?_)
            · replace h := h.2.1 hq
              clear hq
              refine a_iload (pc := 125) a 5 dL_box_125 rfl ?_
              exact hjj127 x13 h
            · replace h := h.2.2 hq
              clear hq
              refine a_iload (pc := 120) a 3 dL_box_120 rfl ?_
              refine a_goto (pc := 122) a dL_box_122 (tgt := 127) (by decide) ?_
              exact hjj127 x11 h
      · clear h
        intro jj95 hjj95 h
        refine a_icmp_le (pc := 81) a h.1 h.2.1 dL_box_81 (tgt := 91) (by decide) (fun hq => ?_) (fun hq => ?_)
        · replace h := h.2.2.1 hq
          clear hq
          refine a_aload_n (pc := 91) a 2 dL_box_91 rfl rfl ?_
          refine a_bipush (pc := 92) a dL_box_92 (by decide) ?_
          refine a_iald (pc := 94) a (tw hinj w3) (by decide) (by decide) dL_box_94 ?_
          refine a_sub (ls1 := [(0, Value.ref (ad 161)), (1, Value.ref (ad 163)), (2, Value.ref (ad 164))]) [0, 1, 2] rfl ?_
          exact hjj95 (s7 164 8) h
        · replace h := h.2.2.2 hq
          clear hq
          refine a_aload_n (pc := 84) a 0 dL_box_84 rfl rfl ?_
          refine a_bipush (pc := 85) a dL_box_85 (by decide) ?_
          refine a_iald (pc := 87) a (tw hinj w1) (by decide) (by decide) dL_box_87 ?_
          refine a_goto (pc := 88) a dL_box_88 (tgt := 95) (by decide) ?_
          refine a_sub (ls1 := [(0, Value.ref (ad 161)), (1, Value.ref (ad 163)), (2, Value.ref (ad 164))]) [0, 1, 2] rfl ?_
          exact hjj95 (s7 161 7) h
    · clear h
      intro jj57 hjj57 h
      refine a_icmp_le (pc := 43) a h.1 h.2.1 dL_box_43 (tgt := 53) (by decide) (fun hq => ?_) (fun hq => ?_)
      · replace h := h.2.2.1 hq
        clear hq
        refine a_aload_n (pc := 53) a 3 dL_box_53 rfl rfl ?_
        refine a_bipush (pc := 54) a dL_box_54 (by decide) ?_
        refine a_iald (pc := 56) a (tw hinj w3) (by decide) (by decide) dL_box_56 ?_
        refine a_sub (ls1 := [(0, Value.ref (ad 161)), (1, Value.ref (ad 163)), (2, Value.ref (ad 164)), (3, vI x2)]) [1, 2, 3, 0] rfl ?_
        refine a_wid 0 0 (by omega) (by omega) ?_
        exact hjj57 (s3 164 7) h
      · replace h := h.2.2.2 hq
        clear hq
        refine a_aload_n (pc := 46) a 1 dL_box_46 rfl rfl ?_
        refine a_bipush (pc := 47) a dL_box_47 (by decide) ?_
        refine a_iald (pc := 49) a (tw hinj w1) (by decide) (by decide) dL_box_49 ?_
        refine a_goto (pc := 50) a dL_box_50 (tgt := 57) (by decide) ?_
        refine a_sub (ls1 := [(0, Value.ref (ad 161)), (1, Value.ref (ad 163)), (2, Value.ref (ad 164)), (3, vI x2)]) [1, 2, 3, 0] rfl ?_
        refine a_wid 0 0 (by omega) (by omega) ?_
        exact hjj57 (s3 161 6) h
  · replace h := h.2.2 hq
    clear hq
    exact e_v (pc := 10) a hr dL_box_10 h

set_option maxRecDepth 100000 in
set_option maxHeartbeats 4000000 in
theorem c_L_legend {l : Launch} {D : va_G} {X : XI} {ad : Nat → Nat} (hinj : adI ad) (hl0 : l.stackTraces = false) (hw : nW ad = 165)   {σ : St} {K : St → Prop} (h : f_L_legend σ K) (sz : Nat) : Met l yL_legend (WW (.code yL_legend cL_legend 7 none)) { frames := 4, cells := 46, slots := 604, locals := 112 } (va_Pc [Value.ref (ad 161), Value.ref (ad 162), Value.ref (ad 163), Value.ref (ad 164)] (WD D X ad σ sz)) (QV D X ad sz K) 46 604 (AA ad sz) := by
  refine aM_start (cc := cL_legend) (maxL := 7) (ret := none) (own := RL) [Value.ref (ad 161), Value.ref (ad 162), Value.ref (ad 163), Value.ref (ad 164)] (by decide) rfl rfl (Nat.le_of_ble_eq_true rfl) hinj hl0 ?_
  intro p e s m below meth c a hr hsz
  subst hsz
  have hts := a.1.2.2.2.2
  have w1 : tyc 161 (0, 15) := ⟨by decide, rfl⟩
  have w2 : tyc 162 (0, 32) := ⟨by decide, rfl⟩
  have w3 : tyc 163 (0, 60) := ⟨by decide, rfl⟩
  have w4 : tyc 164 (0, 64) := ⟨by decide, rfl⟩
  have w5 := hts (Cond.arrayClass .int) (List.mem_cons_of_mem _ (GL_1 _ (by decide +kernel)))
  unfold f_L_legend at h
  refine a_sub (ls1 := [(0, Value.ref (ad 161)), (1, Value.ref (ad 162)), (2, Value.ref (ad 163)), (3, Value.ref (ad 164))]) [0, 1, 2, 3] rfl ?_
  refine a_bipush (pc := 0) a dL_legend_0 (by decide) ?_
  refine a_newI (pc := 2) a (N := 165) (n := 64) hw (by decide) (by decide +kernel) rfl (by decide) (fun ad => [(0, Value.ref (ad 161)), (1, Value.ref (ad 162)), (2, Value.ref (ad 163)), (3, Value.ref (ad 164))]) (fun _ => rfl) rfl w5 (by decide) (by decide) dL_legend_2 ?_
  intro ad a hw td165 hsub hAA
  have hinj := a.2.2.1
  refine a_nmS (fun s1 hx => ?_)
  replace h := h s1 hx
  clear hx
  refine a_astore (pc := 4) a (ls1 := [(4, Value.ref (ad 165)), (0, Value.ref (ad 161)), (1, Value.ref (ad 162)), (2, Value.ref (ad 163)), (3, Value.ref (ad 164))]) dL_legend_4 (by decide) rfl ?_
  refine a_aload_n (pc := 6) a 4 dL_legend_6 rfl rfl ?_
  refine a_iconst (pc := 7) a dL_legend_7 ?_
  refine a_iconst (pc := 8) a dL_legend_8 ?_
  refine a_iast (pc := 9) a (tw hinj w4) (by decide) (by decide) dL_legend_9 ?_
  refine a_nmS (fun s2 hx => ?_)
  replace h := h s2 hx
  clear hx
  refine a_aload_n (pc := 10) a 4 dL_legend_10 rfl rfl ?_
  refine a_iconst (pc := 11) a dL_legend_11 ?_
  refine a_iconst (pc := 12) a dL_legend_12 ?_
  refine a_iast (pc := 13) a (tw hinj w4) (by decide) (by decide) dL_legend_13 ?_
  refine a_nmS (fun s3 hx => ?_)
  replace h := h s3 hx
  clear hx
  refine a_aload_n (pc := 14) a 4 dL_legend_14 rfl rfl ?_
  refine a_iconst (pc := 15) a dL_legend_15 ?_
  refine a_iconst (pc := 16) a dL_legend_16 ?_
  refine a_iast (pc := 17) a (tw hinj w4) (by decide) (by decide) dL_legend_17 ?_
  refine a_nmS (fun s4 hx => ?_)
  replace h := h s4 hx
  clear hx
  refine a_sub (ls1 := [(0, Value.ref (ad 161)), (1, Value.ref (ad 162)), (2, Value.ref (ad 163)), (3, Value.ref (ad 164)), (4, Value.ref (ad 165))]) [1, 2, 3, 4, 0] rfl ?_
  refine a_wid 1 64 (by omega) (by omega) ?_
  refine g_wb0s 9 5 60 45 540 [(0, Value.ref (ad 161)), (1, Value.ref (ad 162)), (2, Value.ref (ad 163)), (3, Value.ref (ad 164)), (4, Value.ref (ad 165))] h (by decide) (by decide) ?_
  clear h
  intro s5 ag18 c_k18 s_k18 hc_k18 hs_k18 hag18 h
  refine a_aload_n (pc := 18) a 3 dL_legend_18 rfl rfl ?_
  refine a_iconst (pc := 19) a dL_legend_19 ?_
  refine a_iald (pc := 20) a (tw hinj w4) (by decide) (by decide) dL_legend_20 ?_
  refine a_bipush (pc := 21) a dL_legend_21 (by decide) ?_
  refine a_icmp_ge (pc := 23) a h.1 ⟨by decide, by decide⟩ dL_legend_23 (tgt := 202) (by decide) (fun hq => ?_) (fun hq => ?_)
  · replace h := h.2.1 hq
    clear hq
    refine a_wid 46 604 (by omega) (by omega) ?_
    refine a_wid 46 604 (by omega) (by omega) ?_
    exact eA_v (pc := 202) a hsub hAA hr dL_legend_202 h
  · replace h := h.2.2 hq
    clear hq
    refine a_aload_n (pc := 26) a 3 dL_legend_26 rfl rfl ?_
    refine a_iconst (pc := 27) a dL_legend_27 ?_
    refine a_iald (pc := 28) a (tw hinj w4) (by decide) (by decide) dL_legend_28 ?_
    refine a_if_ne (pc := 29) a h.1 dL_legend_29 (tgt := 202) (by decide) (fun hq => ?_) (fun hq => ?_)
    · replace h := h.2.1 hq
      clear hq
      refine a_wid 46 604 (by omega) (by omega) ?_
      refine a_wid 46 604 (by omega) (by omega) ?_
      exact eA_v (pc := 202) a hsub hAA hr dL_legend_202 h
    · replace h := h.2.2 hq
      clear hq
      refine a_iconst (pc := 32) a dL_legend_32 ?_
      refine a_istore (pc := 33) a (ls1 := [(5, vI 0), (0, Value.ref (ad 161)), (1, Value.ref (ad 162)), (2, Value.ref (ad 163)), (3, Value.ref (ad 164)), (4, Value.ref (ad 165))]) dL_legend_33 (by decide) rfl ?_
      refine a_sub (ls1 := [(0, Value.ref (ad 161)), (1, Value.ref (ad 162)), (2, Value.ref (ad 163)), (3, Value.ref (ad 164)), (4, Value.ref (ad 165)), (5, vI 0)]) [1, 2, 3, 4, 5, 0] rfl ?_
      refine g_wl1s (fun x6 => [(0, Value.ref (ad 161)), (1, Value.ref (ad 162)), (2, Value.ref (ad 163)), (3, Value.ref (ad 164)), (4, Value.ref (ad 165)), (5, vI x6)]) h ?_
      clear h
      intro x6 s7 ag35 hag35 h
      refine a_iload (pc := 35) a 5 dL_legend_35 rfl ?_
      refine a_bipush (pc := 37) a dL_legend_37 (by decide) ?_
      refine a_icmp_ge (pc := 39) a h.1 ⟨by decide, by decide⟩ dL_legend_39 (tgt := 57) (by decide) (fun hq => ?_) (fun hq => ?_)
      · replace h := h.2.1 hq
        clear hq
        refine a_aload_n (pc := 57) a 3 dL_legend_57 rfl rfl ?_
        refine a_iconst (pc := 58) a dL_legend_58 ?_
        refine a_aload_n (pc := 59) a 0 dL_legend_59 rfl rfl ?_
        refine a_aload_n (pc := 60) a 2 dL_legend_60 rfl rfl ?_
        refine a_csi (pc := 61) a (As := [Value.ref (ad 161), Value.ref (ad 163)]) (rest := [vI 3, Value.ref (ad 164)]) (fun sz => c_L_shown hinj hl0  h sz) (va_cwS 2 hts (gl_S (GL_5 _ (by decide +kernel)) (GL_5 _ (by decide +kernel)) (GL_4 _ (by decide +kernel)) (GL_5 _ (by decide +kernel))) rfl rfl rfl (by decide +kernel) ⟨Nat.le_of_ble_eq_true rfl, Nat.le_of_ble_eq_true rfl⟩) rfl rfl (Nat.le_of_ble_eq_true rfl) ⟨by show c_k18 + 0 ≤ 46; omega, by show s_k18 + 0 ≤ 604; omega⟩ dL_legend_61 ?_
        rintro x8 s9 ⟨hs9, h9⟩
        subst s9
        replace h := h9
        clear h9
        refine a_aload_n (pc := 64) a 0 dL_legend_64 rfl rfl ?_
        refine a_aload_n (pc := 65) a 2 dL_legend_65 rfl rfl ?_
        refine a_aload_n (pc := 66) a 3 dL_legend_66 rfl rfl ?_
        refine a_csi (pc := 67) a (As := [Value.ref (ad 161), Value.ref (ad 163), Value.ref (ad 164)]) (rest := [vI x8, vI 3, Value.ref (ad 164)]) (fun sz => c_L_covered hinj hl0  h sz) (va_cwS 3 hts (gl_S (GL_5 _ (by decide +kernel)) (GL_5 _ (by decide +kernel)) (GL_4 _ (by decide +kernel)) (GL_5 _ (by decide +kernel))) rfl rfl rfl (by decide +kernel) ⟨Nat.le_of_ble_eq_true rfl, Nat.le_of_ble_eq_true rfl⟩) rfl rfl (Nat.le_of_ble_eq_true rfl) ⟨by show c_k18 + 0 + 0 ≤ 46; omega, by show s_k18 + 0 + 0 ≤ 604; omega⟩ dL_legend_67 ?_
        rintro x9 s9 ⟨hs9, h9⟩
        subst s9
        replace h := h9
        clear h9
        refine a_iconst (pc := 70) a dL_legend_70 ?_
        refine a_ixor (pc := 71) a dL_legend_71 ?_
        refine a_iand (pc := 72) a dL_legend_72 ?_
        refine a_iast (pc := 73) a (tw hinj w4) (by decide) (by decide) dL_legend_73 ?_
        refine a_nmS (fun s10 hx => ?_)
        replace h := h s10 hx
        clear hx
        refine a_aload_n (pc := 74) a 0 dL_legend_74 rfl rfl ?_
        refine a_aload_n (pc := 75) a 1 dL_legend_75 rfl rfl ?_
        refine a_aload_n (pc := 76) a 2 dL_legend_76 rfl rfl ?_
        refine a_aload_n (pc := 77) a 3 dL_legend_77 rfl rfl ?_
        refine a_csv (pc := 78) a (As := [Value.ref (ad 161), Value.ref (ad 162), Value.ref (ad 163), Value.ref (ad 164)]) (rest := []) (fun sz => c_L_lists hinj hl0 hw  h sz) (va_cwS 4 hts (gl_S (GL_5 _ (by decide +kernel)) (GL_5 _ (by decide +kernel)) (GL_4 _ (by decide +kernel)) (GL_5 _ (by decide +kernel))) rfl rfl rfl (by decide +kernel) ⟨Nat.le_of_ble_eq_true rfl, Nat.le_of_ble_eq_true rfl⟩) rfl rfl (Nat.le_of_ble_eq_true rfl) ⟨by show c_k18 + 0 + 0 + 5 ≤ 46; omega, by show s_k18 + 0 + 0 + 60 ≤ 604; omega⟩ dL_legend_78 ?_
        clear h
        intro s11 h
        refine a_aload_n (pc := 81) a 0 dL_legend_81 rfl rfl ?_
        refine a_aload_n (pc := 82) a 2 dL_legend_82 rfl rfl ?_
        refine a_aload_n (pc := 83) a 3 dL_legend_83 rfl rfl ?_
        refine a_csv (pc := 84) a (As := [Value.ref (ad 161), Value.ref (ad 163), Value.ref (ad 164)]) (rest := []) (fun sz => c_L_box hinj hl0  h sz) (va_cwS 3 hts (gl_S (GL_6 _ (by decide +kernel)) (GL_6 _ (by decide +kernel)) (GL_4 _ (by decide +kernel)) (GL_6 _ (by decide +kernel))) rfl rfl rfl (by decide +kernel) ⟨Nat.le_of_ble_eq_true rfl, Nat.le_of_ble_eq_true rfl⟩) rfl rfl (Nat.le_of_ble_eq_true rfl) ⟨by show c_k18 + 0 + 0 + 5 + 0 ≤ 46; omega, by show s_k18 + 0 + 0 + 60 + 0 ≤ 604; omega⟩ dL_legend_84 ?_
        clear h
        intro s12 h
        refine a_aload_n (pc := 87) a 3 dL_legend_87 rfl rfl ?_
        refine a_iconst (pc := 88) a dL_legend_88 ?_
        refine a_dup2 (pc := 89) a rfl rfl dL_legend_89 ?_
        refine a_iald (pc := 90) a (tw hinj w4) (by decide) (by decide) dL_legend_90 ?_
        refine a_iconst (pc := 91) a dL_legend_91 ?_
        refine a_iadd (pc := 92) a dL_legend_92 ?_
        refine a_iast (pc := 93) a (tw hinj w4) (by decide) (by decide) dL_legend_93 ?_
        refine a_nmS (fun s13 hx => ?_)
        replace h := h s13 hx
        clear hx
        refine a_aload_n (pc := 94) a 3 dL_legend_94 rfl rfl ?_
        refine a_iconst (pc := 95) a dL_legend_95 ?_
        refine a_iald (pc := 96) a (tw hinj w4) (by decide) (by decide) dL_legend_96 ?_
        refine a_iconst (pc := 97) a dL_legend_97 ?_
        refine g_wj1 116 (c_k18 + 5) (s_k18 + 60) (fun x16 => [(0, Value.ref (ad 161)), (1, Value.ref (ad 162)), (2, Value.ref (ad 163)), (3, Value.ref (ad 164)), (4, Value.ref (ad 165))]) (fun x16 => [vI x16]) h ?_ ?_
        · clear h
          intro x16 h
          refine a_istore (pc := 116) a (ls1 := [(5, vI x16), (0, Value.ref (ad 161)), (1, Value.ref (ad 162)), (2, Value.ref (ad 163)), (3, Value.ref (ad 164)), (4, Value.ref (ad 165))]) dL_legend_116 (by decide) rfl ?_
          refine a_iconst (pc := 118) a dL_legend_118 ?_
          refine a_istore (pc := 119) a (ls1 := [(6, vI 0), (5, vI x16), (0, Value.ref (ad 161)), (1, Value.ref (ad 162)), (2, Value.ref (ad 163)), (3, Value.ref (ad 164)), (4, Value.ref (ad 165))]) dL_legend_119 (by decide) rfl ?_
          refine a_sub (ls1 := [(0, Value.ref (ad 161)), (1, Value.ref (ad 162)), (2, Value.ref (ad 163)), (3, Value.ref (ad 164)), (4, Value.ref (ad 165)), (5, vI x16), (6, vI 0)]) [2, 3, 4, 5, 6, 1, 0] rfl ?_
          refine g_wl2 (fun x17 x18 => [(0, Value.ref (ad 161)), (1, Value.ref (ad 162)), (2, Value.ref (ad 163)), (3, Value.ref (ad 164)), (4, Value.ref (ad 165)), (5, vI x17), (6, vI x18)]) h ?_
          clear h
          intro x17 x18 ag121 hag121 h
          refine a_iload (pc := 121) a 6 dL_legend_121 rfl ?_
          refine a_aload_n (pc := 123) a 3 dL_legend_123 rfl rfl ?_
          refine a_iconst (pc := 124) a dL_legend_124 ?_
          refine a_iald (pc := 125) a (tw hinj w4) (by decide) (by decide) dL_legend_125 ?_
          refine a_icmp_ge (pc := 126) a h.1 h.2.1 dL_legend_126 (tgt := 165) (by decide) (fun hq => ?_) (fun hq => ?_)
          · replace h := h.2.2.1 hq
            clear hq
            refine a_aload_n (pc := 165) a 3 dL_legend_165 rfl rfl ?_
            refine a_iconst (pc := 166) a dL_legend_166 ?_
            refine a_iload (pc := 167) a 5 dL_legend_167 rfl ?_
            refine g_wj1 177 (c_k18 + 5) (s_k18 + 60) (fun x20 => [(0, Value.ref (ad 161)), (1, Value.ref (ad 162)), (2, Value.ref (ad 163)), (3, Value.ref (ad 164)), (4, Value.ref (ad 165))]) (fun x20 => [vI x20, vI 2, Value.ref (ad 164)]) h ?_ ?_
            · clear h
              intro x20 h
              refine a_iast (pc := 177) a (tw hinj w4) (by decide) (by decide) dL_legend_177 ?_
              refine a_nmS (fun s21 hx => ?_)
              replace h := h s21 hx
              clear hx
              refine a_aload_n (pc := 178) a 3 dL_legend_178 rfl rfl ?_
              refine a_bipush (pc := 179) a dL_legend_179 (by decide) ?_
              refine a_aload_n (pc := 181) a 3 dL_legend_181 rfl rfl ?_
              refine a_iconst (pc := 182) a dL_legend_182 ?_
              refine a_iald (pc := 183) a (tw hinj w4) (by decide) (by decide) dL_legend_183 ?_
              refine a_iconst (pc := 184) a dL_legend_184 ?_
              refine a_icmp_ne (pc := 185) a h.1 ⟨by decide, by decide⟩ dL_legend_185 (tgt := 194) (by decide) (fun hq => ?_) (fun hq => ?_)
              · replace h := h.2.1 hq
                clear hq
                refine a_aload_n (pc := 194) a 3 dL_legend_194 rfl rfl ?_
                refine a_bipush (pc := 195) a dL_legend_195 (by decide) ?_
                refine a_iald (pc := 197) a (tw hinj w4) (by decide) (by decide) dL_legend_197 ?_
                refine a_iast (pc := 198) a (tw hinj w4) (by decide) (by decide) dL_legend_198 ?_
                refine a_nmS (fun s22 hx => ?_)
                replace h := h s22 hx
                clear hx
                refine a_goto (pc := 199) a dL_legend_199 (tgt := 18) (by decide) ?_
                refine a_wid (c_k18 + 5) (s_k18 + 60) (by omega) (by omega) ?_
                exact hag18 s22 h
              · replace h := h.2.2 hq
                clear hq
                refine a_aload_n (pc := 188) a 3 dL_legend_188 rfl rfl ?_
                refine a_iconst (pc := 189) a dL_legend_189 ?_
                refine a_iald (pc := 190) a (tw hinj w4) (by decide) (by decide) dL_legend_190 ?_
                refine a_goto (pc := 191) a dL_legend_191 (tgt := 198) (by decide) ?_
                refine a_iast (pc := 198) a (tw hinj w4) (by decide) (by decide) dL_legend_198 ?_
                refine a_nmS (fun s23 hx => ?_)
                replace h := h s23 hx
                clear hx
                refine a_goto (pc := 199) a dL_legend_199 (tgt := 18) (by decide) ?_
                refine a_wid (c_k18 + 5) (s_k18 + 60) (by omega) (by omega) ?_
                exact hag18 s23 h
            · clear h
              intro jj177 hjj177 h
              refine a_if_eq (pc := 169) a h.1 dL_legend_169 (tgt := 176) (by decide) (fun hq => ?_) (fun hq => ?_)
              · replace h := h.2.1 hq
                clear hq
                refine a_iconst (pc := 176) a dL_legend_176 ?_
                refine a_sub (ls1 := [(0, Value.ref (ad 161)), (1, Value.ref (ad 162)), (2, Value.ref (ad 163)), (3, Value.ref (ad 164)), (4, Value.ref (ad 165))]) [0, 1, 2, 3, 4] rfl ?_
                exact hjj177 0 h
              · replace h := h.2.2 hq
                clear hq
                refine a_iconst (pc := 172) a dL_legend_172 ?_
                refine a_goto (pc := 173) a dL_legend_173 (tgt := 177) (by decide) ?_
                refine a_sub (ls1 := [(0, Value.ref (ad 161)), (1, Value.ref (ad 162)), (2, Value.ref (ad 163)), (3, Value.ref (ad 164)), (4, Value.ref (ad 165))]) [0, 1, 2, 3, 4] rfl ?_
                exact hjj177 1 h
          · replace h := h.2.2.2 hq
            clear hq
            refine a_iload (pc := 129) a 5 dL_legend_129 rfl ?_
            refine a_if_eq (pc := 131) a h.1 dL_legend_131 (tgt := 156) (by decide) (fun hq => ?_) (fun hq => ?_)
            · replace h := h.2.1 hq
              clear hq
              refine a_iconst (pc := 156) a dL_legend_156 ?_
              refine a_istore (pc := 157) a (ls1 := [(5, vI 0), (0, Value.ref (ad 161)), (1, Value.ref (ad 162)), (2, Value.ref (ad 163)), (3, Value.ref (ad 164)), (4, Value.ref (ad 165)), (6, vI x18)]) dL_legend_157 (by decide) rfl ?_
              refine a_iinc (pc := 159) a (ls1 := [(6, vI (x18 + 1)), (5, vI 0), (0, Value.ref (ad 161)), (1, Value.ref (ad 162)), (2, Value.ref (ad 163)), (3, Value.ref (ad 164)), (4, Value.ref (ad 165))]) 6 dL_legend_159 rfl (by decide) rfl ?_
              refine a_goto (pc := 162) a dL_legend_162 (tgt := 121) (by decide) ?_
              refine a_sub (ls1 := [(0, Value.ref (ad 161)), (1, Value.ref (ad 162)), (2, Value.ref (ad 163)), (3, Value.ref (ad 164)), (4, Value.ref (ad 165)), (5, vI 0), (6, vI (x18 + 1))]) [2, 3, 4, 5, 6, 1, 0] rfl ?_
              exact hag121 0 (x18 + 1) h
            · replace h := h.2.2 hq
              clear hq
              refine a_aload_n (pc := 134) a 3 dL_legend_134 rfl rfl ?_
              refine a_bipush (pc := 135) a dL_legend_135 (by decide) ?_
              refine a_iload (pc := 137) a 6 dL_legend_137 rfl ?_
              refine a_iadd (pc := 139) a dL_legend_139 ?_
              refine a_iald (pc := 140) a (tw hinj w4) (by decide) h.1 dL_legend_140 ?_
              replace h := h.2
              refine a_aload (pc := 141) a 4 dL_legend_141 rfl ?_
              refine a_bipush (pc := 143) a dL_legend_143 (by decide) ?_
              refine a_iload (pc := 145) a 6 dL_legend_145 rfl ?_
              refine a_iadd (pc := 147) a dL_legend_147 ?_
              refine a_iald (pc := 148) a td165 (by decide) h.1 dL_legend_148 ?_
              replace h := h.2
              refine a_icmp_ne (pc := 149) a h.1 h.2.1 dL_legend_149 (tgt := 156) (by decide) (fun hq => ?_) (fun hq => ?_)
              · replace h := h.2.2.1 hq
                clear hq
                refine a_iconst (pc := 156) a dL_legend_156 ?_
                refine a_istore (pc := 157) a (ls1 := [(5, vI 0), (0, Value.ref (ad 161)), (1, Value.ref (ad 162)), (2, Value.ref (ad 163)), (3, Value.ref (ad 164)), (4, Value.ref (ad 165)), (6, vI x18)]) dL_legend_157 (by decide) rfl ?_
                refine a_iinc (pc := 159) a (ls1 := [(6, vI (x18 + 1)), (5, vI 0), (0, Value.ref (ad 161)), (1, Value.ref (ad 162)), (2, Value.ref (ad 163)), (3, Value.ref (ad 164)), (4, Value.ref (ad 165))]) 6 dL_legend_159 rfl (by decide) rfl ?_
                refine a_goto (pc := 162) a dL_legend_162 (tgt := 121) (by decide) ?_
                refine a_sub (ls1 := [(0, Value.ref (ad 161)), (1, Value.ref (ad 162)), (2, Value.ref (ad 163)), (3, Value.ref (ad 164)), (4, Value.ref (ad 165)), (5, vI 0), (6, vI (x18 + 1))]) [2, 3, 4, 5, 6, 1, 0] rfl ?_
                exact hag121 0 (x18 + 1) h
              · replace h := h.2.2.2 hq
                clear hq
                refine a_iconst (pc := 152) a dL_legend_152 ?_
                refine a_goto (pc := 153) a dL_legend_153 (tgt := 157) (by decide) ?_
                refine a_istore (pc := 157) a (ls1 := [(5, vI 1), (0, Value.ref (ad 161)), (1, Value.ref (ad 162)), (2, Value.ref (ad 163)), (3, Value.ref (ad 164)), (4, Value.ref (ad 165)), (6, vI x18)]) dL_legend_157 (by decide) rfl ?_
                refine a_iinc (pc := 159) a (ls1 := [(6, vI (x18 + 1)), (5, vI 1), (0, Value.ref (ad 161)), (1, Value.ref (ad 162)), (2, Value.ref (ad 163)), (3, Value.ref (ad 164)), (4, Value.ref (ad 165))]) 6 dL_legend_159 rfl (by decide) rfl ?_
                refine a_goto (pc := 162) a dL_legend_162 (tgt := 121) (by decide) ?_
                refine a_sub (ls1 := [(0, Value.ref (ad 161)), (1, Value.ref (ad 162)), (2, Value.ref (ad 163)), (3, Value.ref (ad 164)), (4, Value.ref (ad 165)), (5, vI 1), (6, vI (x18 + 1))]) [2, 3, 4, 5, 6, 1, 0] rfl ?_
                exact hag121 1 (x18 + 1) h
        · clear h
          intro jj116 hjj116 h
          refine g_wj0 115 (c_k18 + 5) (s_k18 + 60) [(0, Value.ref (ad 161)), (1, Value.ref (ad 162)), (2, Value.ref (ad 163)), (3, Value.ref (ad 164)), (4, Value.ref (ad 165))] [] h ?_ ?_
          · clear h
            intro  h
            refine a_iconst (pc := 115) a dL_legend_115 ?_
            exact hjj116 0 h
          · clear h
            intro jj115 hjj115 h
            refine a_icmp_le (pc := 98) a h.1 ⟨by decide, by decide⟩ dL_legend_98 (tgt := 115) (by decide) (fun hq => ?_) (fun hq => ?_)
            · replace h := h.2.1 hq
              clear hq
              refine a_sub (ls1 := [(0, Value.ref (ad 161)), (1, Value.ref (ad 162)), (2, Value.ref (ad 163)), (3, Value.ref (ad 164)), (4, Value.ref (ad 165))]) [0, 1, 2, 3, 4] rfl ?_
              refine a_wid (c_k18 + 5) (s_k18 + 60) (by omega) (by omega) ?_
              exact hjj115  h
            · replace h := h.2.2 hq
              clear hq
              refine a_aload_n (pc := 101) a 3 dL_legend_101 rfl rfl ?_
              refine a_iconst (pc := 102) a dL_legend_102 ?_
              refine a_iald (pc := 103) a (tw hinj w4) (by decide) (by decide) dL_legend_103 ?_
              refine a_aload (pc := 104) a 4 dL_legend_104 rfl ?_
              refine a_iconst (pc := 106) a dL_legend_106 ?_
              refine a_iald (pc := 107) a td165 (by decide) (by decide) dL_legend_107 ?_
              refine a_icmp_ne (pc := 108) a h.1 h.2.1 dL_legend_108 (tgt := 115) (by decide) (fun hq => ?_) (fun hq => ?_)
              · replace h := h.2.2.1 hq
                clear hq
                refine a_sub (ls1 := [(0, Value.ref (ad 161)), (1, Value.ref (ad 162)), (2, Value.ref (ad 163)), (3, Value.ref (ad 164)), (4, Value.ref (ad 165))]) [0, 1, 2, 3, 4] rfl ?_
                refine a_wid (c_k18 + 5) (s_k18 + 60) (by omega) (by omega) ?_
                exact hjj115  h
              · replace h := h.2.2.2 hq
                clear hq
                refine a_iconst (pc := 111) a dL_legend_111 ?_
                refine a_goto (pc := 112) a dL_legend_112 (tgt := 116) (by decide) ?_
                refine a_sub (ls1 := [(0, Value.ref (ad 161)), (1, Value.ref (ad 162)), (2, Value.ref (ad 163)), (3, Value.ref (ad 164)), (4, Value.ref (ad 165))]) [0, 1, 2, 3, 4] rfl ?_
                refine a_wid (c_k18 + 5) (s_k18 + 60) (by omega) (by omega) ?_
                exact hjj116 1 h
      · replace h := h.2.2 hq
        clear hq
        refine a_aload (pc := 42) a 4 dL_legend_42 rfl ?_
        refine a_iload (pc := 44) a 5 dL_legend_44 rfl ?_
        refine a_aload_n (pc := 46) a 3 dL_legend_46 rfl rfl ?_
        refine a_iload (pc := 47) a 5 dL_legend_47 rfl ?_
        refine a_iald (pc := 49) a (tw hinj w4) (by decide) h.1 dL_legend_49 ?_
        replace h := h.2
        refine a_iast (pc := 50) a td165 (by decide) h.1 dL_legend_50 ?_
        replace h := h.2
        refine a_nmS (fun s24 hx => ?_)
        replace h := h s24 hx
        clear hx
        refine a_iinc (pc := 51) a (ls1 := [(5, vI (x6 + 1)), (0, Value.ref (ad 161)), (1, Value.ref (ad 162)), (2, Value.ref (ad 163)), (3, Value.ref (ad 164)), (4, Value.ref (ad 165))]) 5 dL_legend_51 rfl (by decide) rfl ?_
        refine a_goto (pc := 54) a dL_legend_54 (tgt := 35) (by decide) ?_
        refine a_sub (ls1 := [(0, Value.ref (ad 161)), (1, Value.ref (ad 162)), (2, Value.ref (ad 163)), (3, Value.ref (ad 164)), (4, Value.ref (ad 165)), (5, vI (x6 + 1))]) [1, 2, 3, 4, 5, 0] rfl ?_
        exact hag35 (x6 + 1) s24 h

set_option maxRecDepth 100000 in
set_option maxHeartbeats 4000000 in
theorem c_L_closes {l : Launch} {D : va_G} {X : XI} {ad : Nat → Nat} (hinj : adI ad) (hl0 : l.stackTraces = false) {p2 : Int}  {σ : St} {K : St → Prop} (h : f_L_closes p2 σ K) (sz : Nat) : Met l yL_closes (WW (.code yL_closes cL_closes 3 none)) { frames := 0, cells := 0, slots := 0, locals := 0 } (va_Pc [Value.ref (ad 163), vI p2] (WD D X ad σ sz)) (QV D X ad sz K) 0 0 (AA ad sz) := by
  refine aM_start (cc := cL_closes) (maxL := 3) (ret := none) (own := RL) [Value.ref (ad 163), vI p2] (by decide) rfl rfl (Nat.le_of_ble_eq_true rfl) hinj hl0 ?_
  intro p e s m below meth c a hr hsz
  subst hsz
  have hts := a.1.2.2.2.2
  have w1 : tyc 163 (0, 60) := ⟨by decide, rfl⟩
  unfold f_L_closes at h
  refine a_sub (ls1 := [(0, Value.ref (ad 163)), (1, vI p2)]) [0, 1] rfl ?_
  refine a_iconst (pc := 0) a dL_closes_0 ?_
  refine a_iload_n (pc := 1) a 1 dL_closes_1 rfl rfl ?_
  refine a_imul (pc := 2) a dL_closes_2 ?_
  refine a_nm (fun x1 hx => ?_)
  replace h := h x1 hx
  clear hx
  refine a_istore_n (pc := 3) a (ls1 := [(2, vI x1), (0, Value.ref (ad 163)), (1, vI p2)]) dL_closes_3 rfl (by decide) rfl ?_
  refine a_sub (ls1 := [(0, Value.ref (ad 163)), (2, vI x1)]) [1, 0] rfl ?_
  refine g_wl1s (fun x2 => [(0, Value.ref (ad 163)), (2, vI x2)]) h ?_
  clear h
  intro x2 s3 ag4 hag4 h
  refine a_iload_n (pc := 4) a 1 dL_closes_4 rfl rfl ?_
  refine a_bipush (pc := 5) a dL_closes_5 (by decide) ?_
  refine a_icmp_ge (pc := 7) a h.1 ⟨by decide, by decide⟩ dL_closes_7 (tgt := 24) (by decide) (fun hq => ?_) (fun hq => ?_)
  · replace h := h.2.1 hq
    clear hq
    exact e_v (pc := 24) a hr dL_closes_24 h
  · replace h := h.2.2 hq
    clear hq
    refine a_aload_n (pc := 10) a 0 dL_closes_10 rfl rfl ?_
    refine a_iload_n (pc := 11) a 1 dL_closes_11 rfl rfl ?_
    refine a_aload_n (pc := 12) a 0 dL_closes_12 rfl rfl ?_
    refine a_iload_n (pc := 13) a 1 dL_closes_13 rfl rfl ?_
    refine a_iconst (pc := 14) a dL_closes_14 ?_
    refine a_iadd (pc := 15) a dL_closes_15 ?_
    refine a_iald (pc := 16) a (tw hinj w1) (by decide) h.1 dL_closes_16 ?_
    replace h := h.2
    refine a_iast (pc := 17) a (tw hinj w1) (by decide) h.1 dL_closes_17 ?_
    replace h := h.2
    refine a_nmS (fun s4 hx => ?_)
    replace h := h s4 hx
    clear hx
    refine a_iinc (pc := 18) a (ls1 := [(2, vI (x2 + 1)), (0, Value.ref (ad 163))]) 1 dL_closes_18 rfl (by decide) rfl ?_
    refine a_goto (pc := 21) a dL_closes_21 (tgt := 4) (by decide) ?_
    refine a_sub (ls1 := [(0, Value.ref (ad 163)), (2, vI (x2 + 1))]) [1, 0] rfl ?_
    exact hag4 (x2 + 1) s4 h

set_option maxRecDepth 100000 in
set_option maxHeartbeats 4000000 in
theorem c_L_windows {l : Launch} {D : va_G} {X : XI} {ad : Nat → Nat} (hinj : adI ad) (hl0 : l.stackTraces = false) {p2 : Int} {p3 : Int} {p4 : Int} {p5 : Int} {p6 : Int}  {σ : St} {K : Int → St → Prop} (h : f_L_windows p2 p3 p4 p5 p6 σ K) (sz : Nat) : Met l yL_windows (WW (.codeWith yL_windows cL_windows 7 (some .int) [(0, 11, 12, 112)])) { frames := 8, cells := 5, slots := 30, locals := 136 } (va_Pc [Value.ref (ad 0), vI p2, vI p3, vI p4, vI p5, vI p6] (WD D X ad σ sz)) (QI D X ad sz K) 5 30 (AA ad sz) := by
  refine aw_start (cc := cL_windows) (maxL := 7) (ret := (some .int)) (own := RL) [Value.ref (ad 0), vI p2, vI p3, vI p4, vI p5, vI p6] (by decide) rfl rfl (Nat.le_of_ble_eq_true rfl) hinj hl0 ?_
  intro p e s m below meth c a hr htab hsz
  subst hsz
  have hts := a.1.2.2.2.2
  have w1 : tyc 0 (10, 0) := ⟨by decide, rfl⟩
  have w2 := hts (Cond.constant RL 104 (iI (-100002))) (List.mem_cons_of_mem _ (GL_13 _ (by decide +kernel)))
  have w3 := hts (Cond.classLink RL 112 "java/lang/IllegalArgumentException") (List.mem_cons_of_mem _ (GL_13 _ (by decide +kernel)))
  unfold f_L_windows at h
  refine a_sub (ls1 := [(0, Value.ref (ad 0)), (1, vI p2), (2, vI p3), (3, vI p4), (4, vI p5), (5, vI p6)]) [0, 1, 2, 3, 4, 5] rfl ?_
  refine a_aload_n (pc := 0) a 0 dL_windows_0 rfl rfl ?_
  refine a_iload_n (pc := 1) a 1 dL_windows_1 rfl rfl ?_
  refine a_iload_n (pc := 2) a 2 dL_windows_2 rfl rfl ?_
  refine a_iload_n (pc := 3) a 3 dL_windows_3 rfl rfl ?_
  refine a_iload (pc := 4) a 4 dL_windows_4 rfl ?_
  refine a_iload (pc := 6) a 5 dL_windows_6 rfl ?_
  refine a_xvi (pc := 8) a (As := [vI p2, vI p3, vI p4, vI p5, vI p6]) (rest := []) w1 vc6 (fun sz => c_X6_setWindow hinj hl0  h sz) (cwV 5 hts (gl_V (GL_19 _ (by decide +kernel)) (GL_19 _ (by decide +kernel)) (GL_19 _ (by decide +kernel)) (GL_1 _ (by decide +kernel)) (GL_19 _ (by decide +kernel))) rfl rfl rfl (by decide +kernel) ⟨Nat.le_of_ble_eq_true rfl, Nat.le_of_ble_eq_true rfl⟩) rfl rfl (Nat.le_of_ble_eq_true rfl) ⟨Nat.le_of_ble_eq_true rfl, Nat.le_of_ble_eq_true rfl⟩ dL_windows_8 ?_ ?_
  · intro E cx ce q9 s9 H1 locs1 la hk hE hP hS hl h1 h2 h3
    clear h
    obtain ⟨k2, kc⟩ := hk
    have h := k2 kc
    subst kc
    subst hE
    refine x_catch (pc := 8) a [] ⟨0, 11, 12, 112⟩ [] htab (fun z hz => nomatch hz) (by decide) (by decide) w3 (va_Nw.use rfl (a.2.2.2.1.2.2.2.2.1 _ (by decide))) h1 h2 h3 hP hS hl ?_
    refine a_astore (pc := 12) a (ls1 := [(6, Value.ref q9), (0, Value.ref (ad 0)), (1, vI p2), (2, vI p3), (3, vI p4), (4, vI p5), (5, vI p6)]) dL_windows_12 (by decide) rfl ?_
    refine a_ldc (pc := 14) a (n := (-100002)) w2 dL_windows_14 ?_
    refine a_wid 5 30 (by omega) (by omega) ?_
    exact e_i (pc := 16) a hr dL_windows_16 h
  clear h
  intro x1 s2 h
  refine a_wid 5 30 (by omega) (by omega) ?_
  exact e_i (pc := 11) a hr dL_windows_11 h

set_option maxRecDepth 100000 in
set_option maxHeartbeats 4000000 in
theorem c_L_sets {l : Launch} {D : va_G} {X : XI} {ad : Nat → Nat} (hinj : adI ad) (hl0 : l.stackTraces = false) {p2 : Int} {p3 : Int}  {σ : St} {K : Int → St → Prop} (h : f_L_sets p2 p3 σ K) (sz : Nat) : Met l yL_sets (WW (.codeWith yL_sets cL_sets 4 (some .int) [(0, 6, 7, 112)])) { frames := 8, cells := 2, slots := 12, locals := 134 } (va_Pc [Value.ref (ad 0), vI p2, vI p3] (WD D X ad σ sz)) (QI D X ad sz K) 2 12 (AA ad sz) := by
  refine aw_start (cc := cL_sets) (maxL := 4) (ret := (some .int)) (own := RL) [Value.ref (ad 0), vI p2, vI p3] (by decide) rfl rfl (Nat.le_of_ble_eq_true rfl) hinj hl0 ?_
  intro p e s m below meth c a hr htab hsz
  subst hsz
  have hts := a.1.2.2.2.2
  have w1 : tyc 0 (10, 0) := ⟨by decide, rfl⟩
  have w2 := hts (Cond.constant RL 104 (iI (-100002))) (List.mem_cons_of_mem _ (GL_13 _ (by decide +kernel)))
  have w3 := hts (Cond.classLink RL 112 "java/lang/IllegalArgumentException") (List.mem_cons_of_mem _ (GL_13 _ (by decide +kernel)))
  unfold f_L_sets at h
  refine a_sub (ls1 := [(0, Value.ref (ad 0)), (1, vI p2), (2, vI p3)]) [0, 1, 2] rfl ?_
  refine a_aload_n (pc := 0) a 0 dL_sets_0 rfl rfl ?_
  refine a_iload_n (pc := 1) a 1 dL_sets_1 rfl rfl ?_
  refine a_iload_n (pc := 2) a 2 dL_sets_2 rfl rfl ?_
  refine a_xvi (pc := 3) a (As := [vI p2, vI p3]) (rest := []) w1 vc6 (fun sz => c_X6_set hinj hl0  h sz) (cwV 2 hts (gl_V (GL_21 _ (by decide +kernel)) (GL_21 _ (by decide +kernel)) (GL_21 _ (by decide +kernel)) (GL_1 _ (by decide +kernel)) (GL_21 _ (by decide +kernel))) rfl rfl rfl (by decide +kernel) ⟨Nat.le_of_ble_eq_true rfl, Nat.le_of_ble_eq_true rfl⟩) rfl rfl (Nat.le_of_ble_eq_true rfl) ⟨Nat.le_of_ble_eq_true rfl, Nat.le_of_ble_eq_true rfl⟩ dL_sets_3 ?_ ?_
  · intro E cx ce q9 s9 H1 locs1 la hk hE hP hS hl h1 h2 h3
    clear h
    obtain ⟨k2, kc⟩ := hk
    have h := k2 kc
    subst kc
    subst hE
    refine x_catch (pc := 3) a [] ⟨0, 6, 7, 112⟩ [] htab (fun z hz => nomatch hz) (by decide) (by decide) w3 (va_Nw.use rfl (a.2.2.2.1.2.2.2.2.1 _ (by decide))) h1 h2 h3 hP hS hl ?_
    refine a_astore_n (pc := 7) a (ls1 := [(3, Value.ref q9), (0, Value.ref (ad 0)), (1, vI p2), (2, vI p3)]) dL_sets_7 rfl (by decide) rfl ?_
    refine a_ldc (pc := 8) a (n := (-100002)) w2 dL_sets_8 ?_
    refine a_wid 2 12 (by omega) (by omega) ?_
    exact e_i (pc := 10) a hr dL_sets_10 h
  clear h
  intro x1 s2 h
  refine a_wid 2 12 (by omega) (by omega) ?_
  exact e_i (pc := 6) a hr dL_sets_6 h

set_option maxRecDepth 100000 in
set_option maxHeartbeats 4000000 in
theorem c_L_kinds {l : Launch} {D : va_G} {X : XI} {ad : Nat → Nat} (hinj : adI ad) (hl0 : l.stackTraces = false) {p2 : Int} {p3 : Int} {p4 : Int}  {σ : St} {K : Int → St → Prop} (h : f_L_kinds p2 p3 p4 σ K) (sz : Nat) : Met l yL_kinds (WW (.codeWith yL_kinds cL_kinds 5 (some .int) [(0, 7, 8, 110), (0, 7, 13, 112)])) { frames := 8, cells := 3, slots := 18, locals := 135 } (va_Pc [Value.ref (ad 0), vI p2, vI p3, vI p4] (WD D X ad σ sz)) (QI D X ad sz K) 3 18 (AA ad sz) := by
  refine aw_start (cc := cL_kinds) (maxL := 5) (ret := (some .int)) (own := RL) [Value.ref (ad 0), vI p2, vI p3, vI p4] (by decide) rfl rfl (Nat.le_of_ble_eq_true rfl) hinj hl0 ?_
  intro p e s m below meth c a hr htab hsz
  subst hsz
  have hts := a.1.2.2.2.2
  have w1 : tyc 0 (10, 0) := ⟨by decide, rfl⟩
  have w2 := hts (Cond.constant RL 93 (iI (-100001))) (List.mem_cons_of_mem _ (GL_5 _ (by decide +kernel)))
  have w3 := hts (Cond.classLink RL 110 "java/lang/IndexOutOfBoundsException") (List.mem_cons_of_mem _ (GL_16 _ (by decide +kernel)))
  have w4 := hts (Cond.classLink RL 112 "java/lang/IllegalArgumentException") (List.mem_cons_of_mem _ (GL_13 _ (by decide +kernel)))
  have w5 := hts (Cond.constant RL 104 (iI (-100002))) (List.mem_cons_of_mem _ (GL_13 _ (by decide +kernel)))
  unfold f_L_kinds at h
  refine a_sub (ls1 := [(0, Value.ref (ad 0)), (1, vI p2), (2, vI p3), (3, vI p4)]) [0, 1, 2, 3] rfl ?_
  refine a_aload_n (pc := 0) a 0 dL_kinds_0 rfl rfl ?_
  refine a_iload_n (pc := 1) a 1 dL_kinds_1 rfl rfl ?_
  refine a_iload_n (pc := 2) a 2 dL_kinds_2 rfl rfl ?_
  refine a_iload_n (pc := 3) a 3 dL_kinds_3 rfl rfl ?_
  refine a_xvi (pc := 4) a (As := [vI p2, vI p3, vI p4]) (rest := []) w1 vc6 (fun sz => c_X6_setKind hinj hl0  h sz) (cwV 3 hts (gl_V (GL_21 _ (by decide +kernel)) (GL_21 _ (by decide +kernel)) (GL_21 _ (by decide +kernel)) (GL_1 _ (by decide +kernel)) (GL_21 _ (by decide +kernel))) rfl rfl rfl (by decide +kernel) ⟨Nat.le_of_ble_eq_true rfl, Nat.le_of_ble_eq_true rfl⟩) rfl rfl (Nat.le_of_ble_eq_true rfl) ⟨Nat.le_of_ble_eq_true rfl, Nat.le_of_ble_eq_true rfl⟩ dL_kinds_4 ?_ ?_
  · intro E cx ce q9 s9 H1 locs1 la hk hE hP hS hl h1 h2 h3
    clear h
    obtain ⟨k1, k2, kc⟩ := hk
    rcases kc with kc | kc
    · have h := k1 kc
      subst kc
      subst hE
      refine x_catch (pc := 4) a [] ⟨0, 7, 8, 110⟩ [⟨0, 7, 13, 112⟩] htab (fun z hz => nomatch hz) (by decide) (by decide) w3 (va_Nw.use rfl (a.2.2.2.1.2.2.2.2.1 _ (by decide))) h1 h2 h3 hP hS hl ?_
      refine a_astore (pc := 8) a (ls1 := [(4, Value.ref q9), (0, Value.ref (ad 0)), (1, vI p2), (2, vI p3), (3, vI p4)]) dL_kinds_8 (by decide) rfl ?_
      refine a_ldc (pc := 10) a (n := (-100001)) w2 dL_kinds_10 ?_
      refine a_wid 3 18 (by omega) (by omega) ?_
      exact e_i (pc := 12) a hr dL_kinds_12 h
    · have h := k2 kc
      subst kc
      subst hE
      refine x_catch (pc := 4) a [⟨0, 7, 8, 110⟩] ⟨0, 7, 13, 112⟩ [] htab (fun z hz => by rw [List.mem_singleton.mp hz]; exact Or.inr ⟨by decide, _, w3, a.2.2.2.1.2.2.2.2.2.2 _ (by decide) _ (by decide) (by decide)⟩) (by decide) (by decide) w4 (va_Nw.use rfl (a.2.2.2.1.2.2.2.2.1 _ (by decide))) h1 h2 h3 hP hS hl ?_
      refine a_astore (pc := 13) a (ls1 := [(4, Value.ref q9), (0, Value.ref (ad 0)), (1, vI p2), (2, vI p3), (3, vI p4)]) dL_kinds_13 (by decide) rfl ?_
      refine a_ldc (pc := 15) a (n := (-100002)) w5 dL_kinds_15 ?_
      refine a_wid 3 18 (by omega) (by omega) ?_
      exact e_i (pc := 17) a hr dL_kinds_17 h
  clear h
  intro x1 s2 h
  refine a_wid 3 18 (by omega) (by omega) ?_
  exact e_i (pc := 7) a hr dL_kinds_7 h

set_option maxRecDepth 100000 in
set_option maxHeartbeats 4000000 in
theorem c_L_ways {l : Launch} {D : va_G} {X : XI} {ad : Nat → Nat} (hinj : adI ad) (hl0 : l.stackTraces = false) {p2 : Int} {p3 : Int}  {σ : St} {K : Int → St → Prop} (h : f_L_ways p2 p3 σ K) (sz : Nat) : Met l yL_ways (WW (.codeWith yL_ways cL_ways 4 (some .int) [(0, 6, 7, 110), (0, 6, 11, 112)])) { frames := 8, cells := 1, slots := 6, locals := 134 } (va_Pc [Value.ref (ad 0), vI p2, vI p3] (WD D X ad σ sz)) (QI D X ad sz K) 1 6 (AA ad sz) := by
  refine aw_start (cc := cL_ways) (maxL := 4) (ret := (some .int)) (own := RL) [Value.ref (ad 0), vI p2, vI p3] (by decide) rfl rfl (Nat.le_of_ble_eq_true rfl) hinj hl0 ?_
  intro p e s m below meth c a hr htab hsz
  subst hsz
  have hts := a.1.2.2.2.2
  have w1 : tyc 0 (10, 0) := ⟨by decide, rfl⟩
  have w2 := hts (Cond.constant RL 93 (iI (-100001))) (List.mem_cons_of_mem _ (GL_5 _ (by decide +kernel)))
  have w3 := hts (Cond.classLink RL 110 "java/lang/IndexOutOfBoundsException") (List.mem_cons_of_mem _ (GL_16 _ (by decide +kernel)))
  have w4 := hts (Cond.classLink RL 112 "java/lang/IllegalArgumentException") (List.mem_cons_of_mem _ (GL_13 _ (by decide +kernel)))
  have w5 := hts (Cond.constant RL 104 (iI (-100002))) (List.mem_cons_of_mem _ (GL_13 _ (by decide +kernel)))
  unfold f_L_ways at h
  refine a_sub (ls1 := [(0, Value.ref (ad 0)), (1, vI p2), (2, vI p3)]) [0, 1, 2] rfl ?_
  refine a_aload_n (pc := 0) a 0 dL_ways_0 rfl rfl ?_
  refine a_iload_n (pc := 1) a 1 dL_ways_1 rfl rfl ?_
  refine a_iload_n (pc := 2) a 2 dL_ways_2 rfl rfl ?_
  refine a_xvi (pc := 3) a (As := [vI p2, vI p3]) (rest := []) w1 vc6 (fun sz => c_X6_setWay hinj hl0  h sz) (cwV 2 hts (gl_V (GL_21 _ (by decide +kernel)) (GL_21 _ (by decide +kernel)) (GL_21 _ (by decide +kernel)) (GL_1 _ (by decide +kernel)) (GL_22 _ (by decide +kernel))) rfl rfl rfl (by decide +kernel) ⟨Nat.le_of_ble_eq_true rfl, Nat.le_of_ble_eq_true rfl⟩) rfl rfl (Nat.le_of_ble_eq_true rfl) ⟨Nat.le_of_ble_eq_true rfl, Nat.le_of_ble_eq_true rfl⟩ dL_ways_3 ?_ ?_
  · intro E cx ce q9 s9 H1 locs1 la hk hE hP hS hl h1 h2 h3
    clear h
    obtain ⟨k1, k2, kc⟩ := hk
    rcases kc with kc | kc
    · have h := k1 kc
      subst kc
      subst hE
      refine x_catch (pc := 3) a [] ⟨0, 6, 7, 110⟩ [⟨0, 6, 11, 112⟩] htab (fun z hz => nomatch hz) (by decide) (by decide) w3 (va_Nw.use rfl (a.2.2.2.1.2.2.2.2.1 _ (by decide))) h1 h2 h3 hP hS hl ?_
      refine a_astore_n (pc := 7) a (ls1 := [(3, Value.ref q9), (0, Value.ref (ad 0)), (1, vI p2), (2, vI p3)]) dL_ways_7 rfl (by decide) rfl ?_
      refine a_ldc (pc := 8) a (n := (-100001)) w2 dL_ways_8 ?_
      refine a_wid 1 6 (by omega) (by omega) ?_
      exact e_i (pc := 10) a hr dL_ways_10 h
    · have h := k2 kc
      subst kc
      subst hE
      refine x_catch (pc := 3) a [⟨0, 6, 7, 110⟩] ⟨0, 6, 11, 112⟩ [] htab (fun z hz => by rw [List.mem_singleton.mp hz]; exact Or.inr ⟨by decide, _, w3, a.2.2.2.1.2.2.2.2.2.2 _ (by decide) _ (by decide) (by decide)⟩) (by decide) (by decide) w4 (va_Nw.use rfl (a.2.2.2.1.2.2.2.2.1 _ (by decide))) h1 h2 h3 hP hS hl ?_
      refine a_astore_n (pc := 11) a (ls1 := [(3, Value.ref q9), (0, Value.ref (ad 0)), (1, vI p2), (2, vI p3)]) dL_ways_11 rfl (by decide) rfl ?_
      refine a_ldc (pc := 12) a (n := (-100002)) w5 dL_ways_12 ?_
      refine a_wid 1 6 (by omega) (by omega) ?_
      exact e_i (pc := 14) a hr dL_ways_14 h
  clear h
  intro x1 s2 h
  refine a_wid 1 6 (by omega) (by omega) ?_
  exact e_i (pc := 6) a hr dL_ways_6 h

set_option maxRecDepth 100000 in
set_option maxHeartbeats 4000000 in
theorem c_L_limits {l : Launch} {D : va_G} {X : XI} {ad : Nat → Nat} (hinj : adI ad) (hl0 : l.stackTraces = false) {p2 : Int} {p3 : Int}  {σ : St} {K : Int → St → Prop} (h : f_L_limits p2 p3 σ K) (sz : Nat) : Met l yL_limits (WW (.codeWith yL_limits cL_limits 4 (some .int) [(0, 6, 7, 110), (0, 6, 11, 112), (0, 6, 15, 114)])) { frames := 8, cells := 2, slots := 12, locals := 133 } (va_Pc [Value.ref (ad 0), vI p2, vI p3] (WD D X ad σ sz)) (QI D X ad sz K) 2 12 (AA ad sz) := by
  refine aw_start (cc := cL_limits) (maxL := 4) (ret := (some .int)) (own := RL) [Value.ref (ad 0), vI p2, vI p3] (by decide) rfl rfl (Nat.le_of_ble_eq_true rfl) hinj hl0 ?_
  intro p e s m below meth c a hr htab hsz
  subst hsz
  have hts := a.1.2.2.2.2
  have w1 : tyc 0 (10, 0) := ⟨by decide, rfl⟩
  have w2 := hts (Cond.constant RL 93 (iI (-100001))) (List.mem_cons_of_mem _ (GL_5 _ (by decide +kernel)))
  have w3 := hts (Cond.classLink RL 110 "java/lang/IndexOutOfBoundsException") (List.mem_cons_of_mem _ (GL_16 _ (by decide +kernel)))
  have w4 := hts (Cond.classLink RL 112 "java/lang/IllegalArgumentException") (List.mem_cons_of_mem _ (GL_13 _ (by decide +kernel)))
  have w5 := hts (Cond.classLink RL 114 "java/lang/IllegalStateException") (List.mem_cons_of_mem _ (GL_22 _ (by decide +kernel)))
  have w6 := hts (Cond.constant RL 104 (iI (-100002))) (List.mem_cons_of_mem _ (GL_13 _ (by decide +kernel)))
  have w7 := hts (Cond.constant RL 88 (iI (-100003))) (List.mem_cons_of_mem _ (GL_19 _ (by decide +kernel)))
  unfold f_L_limits at h
  refine a_sub (ls1 := [(0, Value.ref (ad 0)), (1, vI p2), (2, vI p3)]) [0, 1, 2] rfl ?_
  refine a_aload_n (pc := 0) a 0 dL_limits_0 rfl rfl ?_
  refine a_iload_n (pc := 1) a 1 dL_limits_1 rfl rfl ?_
  refine a_iload_n (pc := 2) a 2 dL_limits_2 rfl rfl ?_
  refine a_xvi (pc := 3) a (As := [vI p2, vI p3]) (rest := []) w1 vc6 (fun sz => c_X6_limit hinj hl0  h sz) (cwV 2 hts (gl_V (GL_22 _ (by decide +kernel)) (GL_22 _ (by decide +kernel)) (GL_22 _ (by decide +kernel)) (GL_1 _ (by decide +kernel)) (GL_22 _ (by decide +kernel))) rfl rfl rfl (by decide +kernel) ⟨Nat.le_of_ble_eq_true rfl, Nat.le_of_ble_eq_true rfl⟩) rfl rfl (Nat.le_of_ble_eq_true rfl) ⟨Nat.le_of_ble_eq_true rfl, Nat.le_of_ble_eq_true rfl⟩ dL_limits_3 ?_ ?_
  · intro E cx ce q9 s9 H1 locs1 la hk hE hP hS hl h1 h2 h3
    clear h
    obtain ⟨k1, k2, k3, kc⟩ := hk
    rcases kc with kc | kc | kc
    · have h := k1 kc
      subst kc
      subst hE
      refine x_catch (pc := 3) a [] ⟨0, 6, 7, 110⟩ [⟨0, 6, 11, 112⟩, ⟨0, 6, 15, 114⟩] htab (fun z hz => nomatch hz) (by decide) (by decide) w3 (va_Nw.use rfl (a.2.2.2.1.2.2.2.2.1 _ (by decide))) h1 h2 h3 hP hS hl ?_
      refine a_astore_n (pc := 7) a (ls1 := [(3, Value.ref q9), (0, Value.ref (ad 0)), (1, vI p2), (2, vI p3)]) dL_limits_7 rfl (by decide) rfl ?_
      refine a_ldc (pc := 8) a (n := (-100001)) w2 dL_limits_8 ?_
      refine a_wid 2 12 (by omega) (by omega) ?_
      exact e_i (pc := 10) a hr dL_limits_10 h
    · have h := k2 kc
      subst kc
      subst hE
      refine x_catch (pc := 3) a [⟨0, 6, 7, 110⟩] ⟨0, 6, 11, 112⟩ [⟨0, 6, 15, 114⟩] htab (fun z hz => by rw [List.mem_singleton.mp hz]; exact Or.inr ⟨by decide, _, w3, a.2.2.2.1.2.2.2.2.2.2 _ (by decide) _ (by decide) (by decide)⟩) (by decide) (by decide) w4 (va_Nw.use rfl (a.2.2.2.1.2.2.2.2.1 _ (by decide))) h1 h2 h3 hP hS hl ?_
      refine a_astore_n (pc := 11) a (ls1 := [(3, Value.ref q9), (0, Value.ref (ad 0)), (1, vI p2), (2, vI p3)]) dL_limits_11 rfl (by decide) rfl ?_
      refine a_ldc (pc := 12) a (n := (-100002)) w6 dL_limits_12 ?_
      refine a_wid 2 12 (by omega) (by omega) ?_
      exact e_i (pc := 14) a hr dL_limits_14 h
    · have h := k3 kc
      subst kc
      subst hE
      refine x_catch (pc := 3) a [⟨0, 6, 7, 110⟩, ⟨0, 6, 11, 112⟩] ⟨0, 6, 15, 114⟩ [] htab (fun z hz => by rcases List.mem_cons.mp hz with rfl | hz; exact Or.inr ⟨by decide, _, w3, a.2.2.2.1.2.2.2.2.2.2 _ (by decide) _ (by decide) (by decide)⟩; rw [List.mem_singleton.mp hz]; exact Or.inr ⟨by decide, _, w4, a.2.2.2.1.2.2.2.2.2.2 _ (by decide) _ (by decide) (by decide)⟩) (by decide) (by decide) w5 (va_Nw.use rfl (a.2.2.2.1.2.2.2.2.1 _ (by decide))) h1 h2 h3 hP hS hl ?_
      refine a_astore_n (pc := 15) a (ls1 := [(3, Value.ref q9), (0, Value.ref (ad 0)), (1, vI p2), (2, vI p3)]) dL_limits_15 rfl (by decide) rfl ?_
      refine a_ldc (pc := 16) a (n := (-100003)) w7 dL_limits_16 ?_
      refine a_wid 2 12 (by omega) (by omega) ?_
      exact e_i (pc := 18) a hr dL_limits_18 h
  clear h
  intro x1 s2 h
  refine a_wid 2 12 (by omega) (by omega) ?_
  exact e_i (pc := 6) a hr dL_limits_6 h

set_option maxRecDepth 100000 in
set_option maxHeartbeats 4000000 in
theorem c_L_drops {l : Launch} {D : va_G} {X : XI} {ad : Nat → Nat} (hinj : adI ad) (hl0 : l.stackTraces = false) {p2 : Int}  {σ : St} {K : Int → St → Prop} (h : f_L_drops p2 σ K) (sz : Nat) : Met l yL_drops (WW (.codeWith yL_drops cL_drops 3 (some .int) [(0, 5, 6, 110)])) { frames := 8, cells := 1, slots := 6, locals := 132 } (va_Pc [Value.ref (ad 0), vI p2] (WD D X ad σ sz)) (QI D X ad sz K) 1 6 (AA ad sz) := by
  refine aw_start (cc := cL_drops) (maxL := 3) (ret := (some .int)) (own := RL) [Value.ref (ad 0), vI p2] (by decide) rfl rfl (Nat.le_of_ble_eq_true rfl) hinj hl0 ?_
  intro p e s m below meth c a hr htab hsz
  subst hsz
  have hts := a.1.2.2.2.2
  have w1 : tyc 0 (10, 0) := ⟨by decide, rfl⟩
  have w2 := hts (Cond.constant RL 93 (iI (-100001))) (List.mem_cons_of_mem _ (GL_5 _ (by decide +kernel)))
  have w3 := hts (Cond.classLink RL 110 "java/lang/IndexOutOfBoundsException") (List.mem_cons_of_mem _ (GL_16 _ (by decide +kernel)))
  unfold f_L_drops at h
  refine a_sub (ls1 := [(0, Value.ref (ad 0)), (1, vI p2)]) [0, 1] rfl ?_
  refine a_aload_n (pc := 0) a 0 dL_drops_0 rfl rfl ?_
  refine a_iload_n (pc := 1) a 1 dL_drops_1 rfl rfl ?_
  refine a_xvi (pc := 2) a (As := [vI p2]) (rest := []) w1 vc6 (fun sz => c_X6_removeSign hinj hl0  h sz) (cwV 1 hts (gl_V (GL_23 _ (by decide +kernel)) (GL_23 _ (by decide +kernel)) (GL_23 _ (by decide +kernel)) (GL_1 _ (by decide +kernel)) (GL_23 _ (by decide +kernel))) rfl rfl rfl (by decide +kernel) ⟨Nat.le_of_ble_eq_true rfl, Nat.le_of_ble_eq_true rfl⟩) rfl rfl (Nat.le_of_ble_eq_true rfl) ⟨Nat.le_of_ble_eq_true rfl, Nat.le_of_ble_eq_true rfl⟩ dL_drops_2 ?_ ?_
  · intro E cx ce q9 s9 H1 locs1 la hk hE hP hS hl h1 h2 h3
    clear h
    obtain ⟨k1, kc⟩ := hk
    have h := k1 kc
    subst kc
    subst hE
    refine x_catch (pc := 2) a [] ⟨0, 5, 6, 110⟩ [] htab (fun z hz => nomatch hz) (by decide) (by decide) w3 (va_Nw.use rfl (a.2.2.2.1.2.2.2.2.1 _ (by decide))) h1 h2 h3 hP hS hl ?_
    refine a_astore_n (pc := 6) a (ls1 := [(2, Value.ref q9), (0, Value.ref (ad 0)), (1, vI p2)]) dL_drops_6 rfl (by decide) rfl ?_
    refine a_ldc (pc := 7) a (n := (-100001)) w2 dL_drops_7 ?_
    refine a_wid 1 6 (by omega) (by omega) ?_
    exact e_i (pc := 9) a hr dL_drops_9 h
  clear h
  intro x1 s2 h
  refine a_wid 1 6 (by omega) (by omega) ?_
  exact e_i (pc := 5) a hr dL_drops_5 h

set_option maxRecDepth 100000 in
set_option maxHeartbeats 4000000 in
theorem c_L_moves {l : Launch} {D : va_G} {X : XI} {ad : Nat → Nat} (hinj : adI ad) (hl0 : l.stackTraces = false) {p2 : Int} {p3 : Int} {p4 : Int}  {σ : St} {K : Int → St → Prop} (h : f_L_moves p2 p3 p4 σ K) (sz : Nat) : Met l yL_moves (WW (.codeWith yL_moves cL_moves 5 (some .int) [(0, 7, 8, 110), (0, 7, 13, 112)])) { frames := 8, cells := 3, slots := 18, locals := 135 } (va_Pc [Value.ref (ad 0), vI p2, vI p3, vI p4] (WD D X ad σ sz)) (QI D X ad sz K) 3 18 (AA ad sz) := by
  refine aw_start (cc := cL_moves) (maxL := 5) (ret := (some .int)) (own := RL) [Value.ref (ad 0), vI p2, vI p3, vI p4] (by decide) rfl rfl (Nat.le_of_ble_eq_true rfl) hinj hl0 ?_
  intro p e s m below meth c a hr htab hsz
  subst hsz
  have hts := a.1.2.2.2.2
  have w1 : tyc 0 (10, 0) := ⟨by decide, rfl⟩
  have w2 := hts (Cond.constant RL 93 (iI (-100001))) (List.mem_cons_of_mem _ (GL_5 _ (by decide +kernel)))
  have w3 := hts (Cond.classLink RL 110 "java/lang/IndexOutOfBoundsException") (List.mem_cons_of_mem _ (GL_16 _ (by decide +kernel)))
  have w4 := hts (Cond.classLink RL 112 "java/lang/IllegalArgumentException") (List.mem_cons_of_mem _ (GL_13 _ (by decide +kernel)))
  have w5 := hts (Cond.constant RL 104 (iI (-100002))) (List.mem_cons_of_mem _ (GL_13 _ (by decide +kernel)))
  unfold f_L_moves at h
  refine a_sub (ls1 := [(0, Value.ref (ad 0)), (1, vI p2), (2, vI p3), (3, vI p4)]) [0, 1, 2, 3] rfl ?_
  refine a_aload_n (pc := 0) a 0 dL_moves_0 rfl rfl ?_
  refine a_iload_n (pc := 1) a 1 dL_moves_1 rfl rfl ?_
  refine a_iload_n (pc := 2) a 2 dL_moves_2 rfl rfl ?_
  refine a_iload_n (pc := 3) a 3 dL_moves_3 rfl rfl ?_
  refine a_xvi (pc := 4) a (As := [vI p2, vI p3, vI p4]) (rest := []) w1 vc6 (fun sz => c_X6_moveSign hinj hl0  h sz) (cwV 3 hts (gl_V (GL_23 _ (by decide +kernel)) (GL_23 _ (by decide +kernel)) (GL_23 _ (by decide +kernel)) (GL_1 _ (by decide +kernel)) (GL_23 _ (by decide +kernel))) rfl rfl rfl (by decide +kernel) ⟨Nat.le_of_ble_eq_true rfl, Nat.le_of_ble_eq_true rfl⟩) rfl rfl (Nat.le_of_ble_eq_true rfl) ⟨Nat.le_of_ble_eq_true rfl, Nat.le_of_ble_eq_true rfl⟩ dL_moves_4 ?_ ?_
  · intro E cx ce q9 s9 H1 locs1 la hk hE hP hS hl h1 h2 h3
    clear h
    obtain ⟨k1, k2, kc⟩ := hk
    rcases kc with kc | kc
    · have h := k1 kc
      subst kc
      subst hE
      refine x_catch (pc := 4) a [] ⟨0, 7, 8, 110⟩ [⟨0, 7, 13, 112⟩] htab (fun z hz => nomatch hz) (by decide) (by decide) w3 (va_Nw.use rfl (a.2.2.2.1.2.2.2.2.1 _ (by decide))) h1 h2 h3 hP hS hl ?_
      refine a_astore (pc := 8) a (ls1 := [(4, Value.ref q9), (0, Value.ref (ad 0)), (1, vI p2), (2, vI p3), (3, vI p4)]) dL_moves_8 (by decide) rfl ?_
      refine a_ldc (pc := 10) a (n := (-100001)) w2 dL_moves_10 ?_
      refine a_wid 3 18 (by omega) (by omega) ?_
      exact e_i (pc := 12) a hr dL_moves_12 h
    · have h := k2 kc
      subst kc
      subst hE
      refine x_catch (pc := 4) a [⟨0, 7, 8, 110⟩] ⟨0, 7, 13, 112⟩ [] htab (fun z hz => by rw [List.mem_singleton.mp hz]; exact Or.inr ⟨by decide, _, w3, a.2.2.2.1.2.2.2.2.2.2 _ (by decide) _ (by decide) (by decide)⟩) (by decide) (by decide) w4 (va_Nw.use rfl (a.2.2.2.1.2.2.2.2.1 _ (by decide))) h1 h2 h3 hP hS hl ?_
      refine a_astore (pc := 13) a (ls1 := [(4, Value.ref q9), (0, Value.ref (ad 0)), (1, vI p2), (2, vI p3), (3, vI p4)]) dL_moves_13 (by decide) rfl ?_
      refine a_ldc (pc := 15) a (n := (-100002)) w5 dL_moves_15 ?_
      refine a_wid 3 18 (by omega) (by omega) ?_
      exact e_i (pc := 17) a hr dL_moves_17 h
  clear h
  intro x1 s2 h
  refine a_wid 3 18 (by omega) (by omega) ?_
  exact e_i (pc := 7) a hr dL_moves_7 h

set_option maxRecDepth 100000 in
set_option maxHeartbeats 4000000 in
theorem c_L_adds {l : Launch} {D : va_G} {X : XI} {ad : Nat → Nat} (hinj : adI ad) (hl0 : l.stackTraces = false) {p2 : Int} {p3 : Int} {p4 : Int} {p5 : Int} {p6 : Int}  {σ : St} {K : Int → St → Prop} (h : f_L_adds p2 p3 p4 p5 p6 σ K) (sz : Nat) : Met l yL_adds (WW (.codeWith yL_adds cL_adds 7 (some .int) [(0, 11, 12, 110), (0, 11, 17, 112), (0, 11, 22, 114)])) { frames := 8, cells := 6, slots := 36, locals := 136 } (va_Pc [Value.ref (ad 0), vI p2, vI p3, vI p4, vI p5, vI p6] (WD D X ad σ sz)) (QI D X ad sz K) 6 36 (AA ad sz) := by
  refine aw_start (cc := cL_adds) (maxL := 7) (ret := (some .int)) (own := RL) [Value.ref (ad 0), vI p2, vI p3, vI p4, vI p5, vI p6] (by decide) rfl rfl (Nat.le_of_ble_eq_true rfl) hinj hl0 ?_
  intro p e s m below meth c a hr htab hsz
  subst hsz
  have hts := a.1.2.2.2.2
  have w1 : tyc 0 (10, 0) := ⟨by decide, rfl⟩
  have w2 := hts (Cond.constant RL 93 (iI (-100001))) (List.mem_cons_of_mem _ (GL_5 _ (by decide +kernel)))
  have w3 := hts (Cond.classLink RL 110 "java/lang/IndexOutOfBoundsException") (List.mem_cons_of_mem _ (GL_16 _ (by decide +kernel)))
  have w4 := hts (Cond.classLink RL 112 "java/lang/IllegalArgumentException") (List.mem_cons_of_mem _ (GL_13 _ (by decide +kernel)))
  have w5 := hts (Cond.classLink RL 114 "java/lang/IllegalStateException") (List.mem_cons_of_mem _ (GL_22 _ (by decide +kernel)))
  have w6 := hts (Cond.constant RL 104 (iI (-100002))) (List.mem_cons_of_mem _ (GL_13 _ (by decide +kernel)))
  have w7 := hts (Cond.constant RL 88 (iI (-100003))) (List.mem_cons_of_mem _ (GL_19 _ (by decide +kernel)))
  unfold f_L_adds at h
  refine a_sub (ls1 := [(0, Value.ref (ad 0)), (1, vI p2), (2, vI p3), (3, vI p4), (4, vI p5), (5, vI p6)]) [0, 1, 2, 3, 4, 5] rfl ?_
  refine a_aload_n (pc := 0) a 0 dL_adds_0 rfl rfl ?_
  refine a_iload_n (pc := 1) a 1 dL_adds_1 rfl rfl ?_
  refine a_iload_n (pc := 2) a 2 dL_adds_2 rfl rfl ?_
  refine a_iload_n (pc := 3) a 3 dL_adds_3 rfl rfl ?_
  refine a_iload (pc := 4) a 4 dL_adds_4 rfl ?_
  refine a_iload (pc := 6) a 5 dL_adds_6 rfl ?_
  refine a_xvi (pc := 8) a (As := [vI p2, vI p3, vI p4, vI p5, vI p6]) (rest := []) w1 vc6 (fun sz => c_X6_addSign hinj hl0  h sz) (cwV 5 hts (gl_V (GL_24 _ (by decide +kernel)) (GL_24 _ (by decide +kernel)) (GL_24 _ (by decide +kernel)) (GL_1 _ (by decide +kernel)) (GL_24 _ (by decide +kernel))) rfl rfl rfl (by decide +kernel) ⟨Nat.le_of_ble_eq_true rfl, Nat.le_of_ble_eq_true rfl⟩) rfl rfl (Nat.le_of_ble_eq_true rfl) ⟨Nat.le_of_ble_eq_true rfl, Nat.le_of_ble_eq_true rfl⟩ dL_adds_8 ?_ ?_
  · intro E cx ce q9 s9 H1 locs1 la hk hE hP hS hl h1 h2 h3
    clear h
    obtain ⟨k1, k2, k3, kc⟩ := hk
    rcases kc with kc | kc | kc
    · have h := k1 kc
      subst kc
      subst hE
      refine x_catch (pc := 8) a [] ⟨0, 11, 12, 110⟩ [⟨0, 11, 17, 112⟩, ⟨0, 11, 22, 114⟩] htab (fun z hz => nomatch hz) (by decide) (by decide) w3 (va_Nw.use rfl (a.2.2.2.1.2.2.2.2.1 _ (by decide))) h1 h2 h3 hP hS hl ?_
      refine a_astore (pc := 12) a (ls1 := [(6, Value.ref q9), (0, Value.ref (ad 0)), (1, vI p2), (2, vI p3), (3, vI p4), (4, vI p5), (5, vI p6)]) dL_adds_12 (by decide) rfl ?_
      refine a_ldc (pc := 14) a (n := (-100001)) w2 dL_adds_14 ?_
      refine a_wid 6 36 (by omega) (by omega) ?_
      exact e_i (pc := 16) a hr dL_adds_16 h
    · have h := k2 kc
      subst kc
      subst hE
      refine x_catch (pc := 8) a [⟨0, 11, 12, 110⟩] ⟨0, 11, 17, 112⟩ [⟨0, 11, 22, 114⟩] htab (fun z hz => by rw [List.mem_singleton.mp hz]; exact Or.inr ⟨by decide, _, w3, a.2.2.2.1.2.2.2.2.2.2 _ (by decide) _ (by decide) (by decide)⟩) (by decide) (by decide) w4 (va_Nw.use rfl (a.2.2.2.1.2.2.2.2.1 _ (by decide))) h1 h2 h3 hP hS hl ?_
      refine a_astore (pc := 17) a (ls1 := [(6, Value.ref q9), (0, Value.ref (ad 0)), (1, vI p2), (2, vI p3), (3, vI p4), (4, vI p5), (5, vI p6)]) dL_adds_17 (by decide) rfl ?_
      refine a_ldc (pc := 19) a (n := (-100002)) w6 dL_adds_19 ?_
      refine a_wid 6 36 (by omega) (by omega) ?_
      exact e_i (pc := 21) a hr dL_adds_21 h
    · have h := k3 kc
      subst kc
      subst hE
      refine x_catch (pc := 8) a [⟨0, 11, 12, 110⟩, ⟨0, 11, 17, 112⟩] ⟨0, 11, 22, 114⟩ [] htab (fun z hz => by rcases List.mem_cons.mp hz with rfl | hz; exact Or.inr ⟨by decide, _, w3, a.2.2.2.1.2.2.2.2.2.2 _ (by decide) _ (by decide) (by decide)⟩; rw [List.mem_singleton.mp hz]; exact Or.inr ⟨by decide, _, w4, a.2.2.2.1.2.2.2.2.2.2 _ (by decide) _ (by decide) (by decide)⟩) (by decide) (by decide) w5 (va_Nw.use rfl (a.2.2.2.1.2.2.2.2.1 _ (by decide))) h1 h2 h3 hP hS hl ?_
      refine a_astore (pc := 22) a (ls1 := [(6, Value.ref q9), (0, Value.ref (ad 0)), (1, vI p2), (2, vI p3), (3, vI p4), (4, vI p5), (5, vI p6)]) dL_adds_22 (by decide) rfl ?_
      refine a_ldc (pc := 24) a (n := (-100003)) w7 dL_adds_24 ?_
      refine a_wid 6 36 (by omega) (by omega) ?_
      exact e_i (pc := 26) a hr dL_adds_26 h
  clear h
  intro x1 s2 h
  refine a_wid 6 36 (by omega) (by omega) ?_
  exact e_i (pc := 11) a hr dL_adds_11 h

set_option maxRecDepth 100000 in
set_option maxHeartbeats 4000000 in
theorem c_L_acts {l : Launch} {D : va_G} {X : XI} {ad : Nat → Nat} (hinj : adI ad) (hl0 : l.stackTraces = false) {p5 : Int}  {σ : St} {K : Int → St → Prop} (h : f_L_acts p5 σ K) (sz : Nat) : Met l yL_acts (WW (.code yL_acts cL_acts 19 (some .boolean))) { frames := 9, cells := 6, slots := 36, locals := 162 } (va_Pc [Value.ref (ad 0), Value.ref (ad 161), Value.ref (ad 162), Value.ref (ad 163), vI p5] (WD D X ad σ sz)) (QI D X ad sz K) 6 36 (AA ad sz) := by
  refine aM_start (cc := cL_acts) (maxL := 19) (ret := (some .boolean)) (own := RL) [Value.ref (ad 0), Value.ref (ad 161), Value.ref (ad 162), Value.ref (ad 163), vI p5] (by decide) rfl rfl (Nat.le_of_ble_eq_true rfl) hinj hl0 ?_
  intro p e s m below meth c a hr hsz
  subst hsz
  have hts := a.1.2.2.2.2
  have w1 : tyc 0 (10, 0) := ⟨by decide, rfl⟩
  have w2 : tyc 161 (0, 15) := ⟨by decide, rfl⟩
  have w3 : tyc 162 (0, 32) := ⟨by decide, rfl⟩
  have w4 : tyc 163 (0, 60) := ⟨by decide, rfl⟩
  have w5 := hts (Cond.constant RL 65 (iI 10000000)) (List.mem_cons_of_mem _ (GL_19 _ (by decide +kernel)))
  have w6 := hts (Cond.constant RL 88 (iI (-100003))) (List.mem_cons_of_mem _ (GL_19 _ (by decide +kernel)))
  have w7 := hts (Cond.constant RL 93 (iI (-100001))) (List.mem_cons_of_mem _ (GL_5 _ (by decide +kernel)))
  have w8 := hts (Cond.constant RL 104 (iI (-100002))) (List.mem_cons_of_mem _ (GL_13 _ (by decide +kernel)))
  unfold f_L_acts at h
  refine a_sub (ls1 := [(0, Value.ref (ad 0)), (1, Value.ref (ad 161)), (2, Value.ref (ad 162)), (3, Value.ref (ad 163)), (4, vI p5)]) [0, 1, 2, 3, 4] rfl ?_
  refine a_iload (pc := 0) a 4 dL_acts_0 rfl ?_
  refine a_iconst (pc := 2) a dL_acts_2 ?_
  refine a_ishr (pc := 3) a dL_acts_3 ?_
  refine a_ldc (pc := 4) a (n := 10000000) w5 dL_acts_4 ?_
  refine a_csi (pc := 6) a (As := [vI (bR p5 5), vI 10000000]) (rest := []) (fun sz => c_L_low hinj hl0  h sz) (va_cwS 2 hts (gl_S (GL_19 _ (by decide +kernel)) (GL_19 _ (by decide +kernel)) (GL_4 _ (by decide +kernel)) (GL_19 _ (by decide +kernel))) rfl rfl rfl (by decide +kernel) ⟨Nat.le_of_ble_eq_true rfl, Nat.le_of_ble_eq_true rfl⟩) rfl rfl (Nat.le_of_ble_eq_true rfl) ⟨Nat.le_of_ble_eq_true rfl, Nat.le_of_ble_eq_true rfl⟩ dL_acts_6 ?_
  rintro x1 s9 ⟨hs9, h9⟩
  subst s9
  replace h := h9
  clear h9
  refine a_istore (pc := 9) a (ls1 := [(5, vI x1), (0, Value.ref (ad 0)), (1, Value.ref (ad 161)), (2, Value.ref (ad 162)), (3, Value.ref (ad 163)), (4, vI p5)]) dL_acts_9 (by decide) rfl ?_
  refine a_aload_n (pc := 11) a 2 dL_acts_11 rfl rfl ?_
  refine a_bipush (pc := 12) a dL_acts_12 (by decide) ?_
  refine a_iald (pc := 14) a (tw hinj w2) (by decide) (by decide) dL_acts_14 ?_
  refine g_wj1 29 0 0 (fun x3 => [(0, Value.ref (ad 0)), (1, Value.ref (ad 161)), (2, Value.ref (ad 162)), (3, Value.ref (ad 163)), (4, vI p5), (5, vI x1)]) (fun x3 => [vI x3]) h ?_ ?_
  · clear h
    intro x3 h
    refine a_istore (pc := 29) a (ls1 := [(6, vI x3), (0, Value.ref (ad 0)), (1, Value.ref (ad 161)), (2, Value.ref (ad 162)), (3, Value.ref (ad 163)), (4, vI p5), (5, vI x1)]) dL_acts_29 (by decide) rfl ?_
    refine a_iload (pc := 31) a 6 dL_acts_31 rfl ?_
    refine a_iconst (pc := 33) a dL_acts_33 ?_
    refine a_irem (pc := 34) a dL_acts_34 h.1 (by decide) ?_
    replace h := h.2
    refine a_nm (fun x4 hx => ?_)
    replace h := h x4 hx
    clear hx
    refine a_istore (pc := 35) a (ls1 := [(7, vI x4), (6, vI x3), (0, Value.ref (ad 0)), (1, Value.ref (ad 161)), (2, Value.ref (ad 162)), (3, Value.ref (ad 163)), (4, vI p5), (5, vI x1)]) dL_acts_35 (by decide) rfl ?_
    refine a_iload (pc := 37) a 6 dL_acts_37 rfl ?_
    refine a_bipush (pc := 39) a dL_acts_39 (by decide) ?_
    refine a_csi (pc := 41) a (As := [vI p5, vI 20]) (rest := []) (fun sz => c_L_low hinj hl0  h sz) (va_cwS 2 hts (gl_S (GL_19 _ (by decide +kernel)) (GL_19 _ (by decide +kernel)) (GL_4 _ (by decide +kernel)) (GL_19 _ (by decide +kernel))) rfl rfl rfl (by decide +kernel) ⟨Nat.le_of_ble_eq_true rfl, Nat.le_of_ble_eq_true rfl⟩) rfl rfl (Nat.le_of_ble_eq_true rfl) ⟨Nat.le_of_ble_eq_true rfl, Nat.le_of_ble_eq_true rfl⟩ dL_acts_41 ?_
    rintro x5 s9 ⟨hs9, h9⟩
    subst s9
    replace h := h9
    clear h9
    have hsw : x5 = 0 ∨ x5 = 1 ∨ x5 = 2 ∨ x5 = 3 ∨ x5 = 4 ∨ x5 = 5 ∨ x5 = 6 ∨ x5 = 7 ∨ x5 = 8 ∨ x5 = 9 ∨ x5 = 10 ∨ x5 = 11 ∨ (x5 < 0 ∨ 11 < x5) := by omega
    rcases hsw with hq | hq | hq | hq | hq | hq | hq | hq | hq | hq | hq | hq | hq
    · replace h := h.2.1 hq
      refine a_tsIn (pc := 44) a 0 hq ⟨by decide, by decide⟩ dL_acts_44 (by decide) (by decide) rfl (tgt := 108) (by decide) ?_
      clear hq
      refine a_aload_n (pc := 108) a 3 dL_acts_108 rfl rfl ?_
      refine a_iconst (pc := 109) a dL_acts_109 ?_
      refine a_iload (pc := 110) a 7 dL_acts_110 rfl ?_
      refine a_bipush (pc := 112) a dL_acts_112 (by decide) ?_
      refine a_irem (pc := 114) a dL_acts_114 h.1 (by decide) ?_
      replace h := h.2
      refine a_iast (pc := 115) a (tw hinj w2) (by decide) (by decide) dL_acts_115 ?_
      refine a_nmS (fun s6 hx => ?_)
      replace h := h s6 hx
      clear hx
      refine a_aload_n (pc := 116) a 3 dL_acts_116 rfl rfl ?_
      refine a_iconst (pc := 117) a dL_acts_117 ?_
      refine a_iload (pc := 118) a 7 dL_acts_118 rfl ?_
      refine a_bipush (pc := 120) a dL_acts_120 (by decide) ?_
      refine a_idiv (pc := 122) a dL_acts_122 h.1 (by decide) ?_
      replace h := h.2
      refine a_bipush (pc := 123) a dL_acts_123 (by decide) ?_
      refine a_irem (pc := 125) a dL_acts_125 h.1 (by decide) ?_
      replace h := h.2
      refine a_iast (pc := 126) a (tw hinj w2) (by decide) (by decide) dL_acts_126 ?_
      refine a_nmS (fun s7 hx => ?_)
      replace h := h s7 hx
      clear hx
      refine a_aload_n (pc := 127) a 3 dL_acts_127 rfl rfl ?_
      refine a_bipush (pc := 128) a dL_acts_128 (by decide) ?_
      refine a_bipush (pc := 130) a dL_acts_130 (by decide) ?_
      refine a_iload (pc := 132) a 7 dL_acts_132 rfl ?_
      refine a_sipush (pc := 134) a dL_acts_134 (by decide) ?_
      refine a_idiv (pc := 137) a dL_acts_137 h.1 (by decide) ?_
      replace h := h.2
      refine a_iload (pc := 138) a 7 dL_acts_138 rfl ?_
      refine a_iconst (pc := 140) a dL_acts_140 ?_
      refine a_irem (pc := 141) a dL_acts_141 h.1 (by decide) ?_
      replace h := h.2
      refine g_wj1 153 0 0 (fun x9 => [(0, Value.ref (ad 0)), (1, Value.ref (ad 161)), (3, Value.ref (ad 163)), (5, vI x1)]) (fun x9 => [vI x9, vI (x1 / 3600), vI 10, vI 6, Value.ref (ad 161)]) h ?_ ?_
      · clear h
        intro x9 h
        refine a_irem (pc := 153) a dL_acts_153 h.1 h.2.1 ?_
        replace h := h.2.2
        refine a_iadd (pc := 154) a dL_acts_154 ?_
        refine a_iast (pc := 155) a (tw hinj w2) (by decide) (by decide) dL_acts_155 ?_
        refine a_nmS (fun s10 hx => ?_)
        replace h := h s10 hx
        clear hx
        refine a_aload_n (pc := 156) a 1 dL_acts_156 rfl rfl ?_
        refine a_bipush (pc := 157) a dL_acts_157 (by decide) ?_
        refine a_bipush (pc := 159) a dL_acts_159 (by decide) ?_
        refine a_iload (pc := 161) a 3 dL_acts_161 rfl ?_
        refine a_bipush (pc := 163) a dL_acts_163 (by decide) ?_
        refine a_idiv (pc := 165) a dL_acts_165 h.1 (by decide) ?_
        replace h := h.2
        refine a_iload (pc := 166) a 3 dL_acts_166 rfl ?_
        refine a_iconst (pc := 168) a dL_acts_168 ?_
        refine a_irem (pc := 169) a dL_acts_169 h.1 (by decide) ?_
        replace h := h.2
        refine g_wj1 181 0 0 (fun x12 => [(0, Value.ref (ad 0)), (1, Value.ref (ad 161)), (3, Value.ref (ad 163)), (5, vI x1)]) (fun x12 => [vI x12, vI (x1 / 7), vI 10, vI 7, Value.ref (ad 161)]) h ?_ ?_
        · clear h
          intro x12 h
          refine a_irem (pc := 181) a dL_acts_181 h.1 h.2.1 ?_
          replace h := h.2.2
          refine a_iadd (pc := 182) a dL_acts_182 ?_
          refine a_iast (pc := 183) a (tw hinj w2) (by decide) (by decide) dL_acts_183 ?_
          refine a_nmS (fun s13 hx => ?_)
          replace h := h s13 hx
          clear hx
          refine a_aload_n (pc := 184) a 1 dL_acts_184 rfl rfl ?_
          refine a_bipush (pc := 185) a dL_acts_185 (by decide) ?_
          refine a_iload (pc := 187) a 3 dL_acts_187 rfl ?_
          refine a_iconst (pc := 189) a dL_acts_189 ?_
          refine a_irem (pc := 190) a dL_acts_190 h.1 (by decide) ?_
          replace h := h.2
          refine g_wj1 205 0 0 (fun x15 => [(0, Value.ref (ad 0)), (1, Value.ref (ad 161)), (3, Value.ref (ad 163))]) (fun x15 => [vI x15, vI 8, Value.ref (ad 161)]) h ?_ ?_
          · clear h
            intro x15 h
            refine a_iast (pc := 205) a (tw hinj w2) (by decide) (by decide) dL_acts_205 ?_
            refine a_nmS (fun s16 hx => ?_)
            replace h := h s16 hx
            clear hx
            refine a_aload_n (pc := 206) a 0 dL_acts_206 rfl rfl ?_
            refine a_aload_n (pc := 207) a 1 dL_acts_207 rfl rfl ?_
            refine a_iconst (pc := 208) a dL_acts_208 ?_
            refine a_iald (pc := 209) a (tw hinj w2) (by decide) (by decide) dL_acts_209 ?_
            refine a_aload_n (pc := 210) a 1 dL_acts_210 rfl rfl ?_
            refine a_iconst (pc := 211) a dL_acts_211 ?_
            refine a_iald (pc := 212) a (tw hinj w2) (by decide) (by decide) dL_acts_212 ?_
            refine a_aload_n (pc := 213) a 1 dL_acts_213 rfl rfl ?_
            refine a_bipush (pc := 214) a dL_acts_214 (by decide) ?_
            refine a_iald (pc := 216) a (tw hinj w2) (by decide) (by decide) dL_acts_216 ?_
            refine a_aload_n (pc := 217) a 1 dL_acts_217 rfl rfl ?_
            refine a_bipush (pc := 218) a dL_acts_218 (by decide) ?_
            refine a_iald (pc := 220) a (tw hinj w2) (by decide) (by decide) dL_acts_220 ?_
            refine a_aload_n (pc := 221) a 1 dL_acts_221 rfl rfl ?_
            refine a_bipush (pc := 222) a dL_acts_222 (by decide) ?_
            refine a_iald (pc := 224) a (tw hinj w2) (by decide) (by decide) dL_acts_224 ?_
            refine a_cwi (pc := 225) a (As := [Value.ref (ad 0), vI (s16 161 4), vI (s16 161 5), vI (s16 161 6), vI (s16 161 7), vI (s16 161 8)]) (rest := []) (fun sz => c_L_windows hinj hl0  h sz) (vx_cwSW 6 hts (gl_S (GL_19 _ (by decide +kernel)) (GL_19 _ (by decide +kernel)) (GL_4 _ (by decide +kernel)) (GL_19 _ (by decide +kernel))) rfl rfl rfl (by decide +kernel) ⟨Nat.le_of_ble_eq_true rfl, Nat.le_of_ble_eq_true rfl⟩) rfl rfl (Nat.le_of_ble_eq_true rfl) ⟨Nat.le_of_ble_eq_true rfl, Nat.le_of_ble_eq_true rfl⟩ dL_acts_225 ?_
            clear h
            intro x17 s18 h
            refine a_aload_n (pc := 228) a 1 dL_acts_228 rfl rfl ?_
            refine a_aload_n (pc := 229) a 2 dL_acts_229 rfl rfl ?_
            refine a_csi (pc := 230) a (As := [Value.ref (ad 161), Value.ref (ad 163)]) (rest := [vI x17]) (fun sz => c_L_shown hinj hl0  h sz) (va_cwS 2 hts (gl_S (GL_5 _ (by decide +kernel)) (GL_5 _ (by decide +kernel)) (GL_4 _ (by decide +kernel)) (GL_5 _ (by decide +kernel))) rfl rfl rfl (by decide +kernel) ⟨Nat.le_of_ble_eq_true rfl, Nat.le_of_ble_eq_true rfl⟩) rfl rfl (Nat.le_of_ble_eq_true rfl) ⟨Nat.le_of_ble_eq_true rfl, Nat.le_of_ble_eq_true rfl⟩ dL_acts_230 ?_
            rintro x19 s9 ⟨hs9, h9⟩
            subst s9
            replace h := h9
            clear h9
            refine a_csi (pc := 233) a (As := [vI x19]) (rest := [vI x17]) (fun sz => c_L_bits hinj hl0  h sz) (va_cwS 1 hts (gl_S (GL_5 _ (by decide +kernel)) (GL_5 _ (by decide +kernel)) (GL_4 _ (by decide +kernel)) (GL_5 _ (by decide +kernel))) rfl rfl rfl (by decide +kernel) ⟨Nat.le_of_ble_eq_true rfl, Nat.le_of_ble_eq_true rfl⟩) rfl rfl (Nat.le_of_ble_eq_true rfl) ⟨Nat.le_of_ble_eq_true rfl, Nat.le_of_ble_eq_true rfl⟩ dL_acts_233 ?_
            rintro x20 s9 ⟨hs9, h9⟩
            subst s9
            replace h := h9
            clear h9
            refine a_icmp_ne (pc := 236) a h.1 h.2.1 dL_acts_236 (tgt := 243) (by decide) (fun hq => ?_) (fun hq => ?_)
            · replace h := h.2.2.1 hq
              clear hq
              refine a_iconst (pc := 243) a dL_acts_243 ?_
              refine a_wid 6 36 (by omega) (by omega) ?_
              exact e_z (pc := 244) a hr (by decide) dL_acts_244 h
            · replace h := h.2.2.2 hq
              clear hq
              refine a_iconst (pc := 239) a dL_acts_239 ?_
              refine a_goto (pc := 240) a dL_acts_240 (tgt := 244) (by decide) ?_
              refine a_wid 6 36 (by omega) (by omega) ?_
              exact e_z (pc := 244) a hr (by decide) dL_acts_244 h
          · clear h
            intro jj205 hjj205 h
            refine a_if_le (pc := 191) a h.1 dL_acts_191 (tgt := 198) (by decide) (fun hq => ?_) (fun hq => ?_)
            · replace h := h.2.1 hq
              clear hq
              refine a_iload (pc := 198) a 3 dL_acts_198 rfl ?_
              refine a_iconst (pc := 200) a dL_acts_200 ?_
              refine a_idiv (pc := 201) a dL_acts_201 h.1 (by decide) ?_
              replace h := h.2
              refine a_bipush (pc := 202) a dL_acts_202 (by decide) ?_
              refine a_irem (pc := 204) a dL_acts_204 h.1 (by decide) ?_
              replace h := h.2
              refine a_sub (ls1 := [(0, Value.ref (ad 0)), (1, Value.ref (ad 161)), (3, Value.ref (ad 163))]) [0, 1, 2] rfl ?_
              exact hjj205 ((x1 / 5) % 6) h
            · replace h := h.2.2 hq
              clear hq
              refine a_iconst (pc := 194) a dL_acts_194 ?_
              refine a_goto (pc := 195) a dL_acts_195 (tgt := 205) (by decide) ?_
              refine a_sub (ls1 := [(0, Value.ref (ad 0)), (1, Value.ref (ad 161)), (3, Value.ref (ad 163))]) [0, 1, 2] rfl ?_
              exact hjj205 5 h
        · clear h
          intro jj181 hjj181 h
          refine a_if_ne (pc := 170) a h.1 dL_acts_170 (tgt := 179) (by decide) (fun hq => ?_) (fun hq => ?_)
          · replace h := h.2.1 hq
            clear hq
            refine a_bipush (pc := 179) a dL_acts_179 (by decide) ?_
            exact hjj181 60 h
          · replace h := h.2.2 hq
            clear hq
            refine a_sipush (pc := 173) a dL_acts_173 (by decide) ?_
            refine a_goto (pc := 176) a dL_acts_176 (tgt := 181) (by decide) ?_
            exact hjj181 191 h
      · clear h
        intro jj153 hjj153 h
        refine a_if_ne (pc := 142) a h.1 dL_acts_142 (tgt := 151) (by decide) (fun hq => ?_) (fun hq => ?_)
        · replace h := h.2.1 hq
          clear hq
          refine a_bipush (pc := 151) a dL_acts_151 (by decide) ?_
          refine a_sub (ls1 := [(0, Value.ref (ad 0)), (1, Value.ref (ad 161)), (3, Value.ref (ad 163)), (5, vI x1)]) [2, 3, 5, 7] rfl ?_
          refine a_wid 0 0 (by omega) (by omega) ?_
          exact hjj153 60 h
        · replace h := h.2.2 hq
          clear hq
          refine a_sipush (pc := 145) a dL_acts_145 (by decide) ?_
          refine a_goto (pc := 148) a dL_acts_148 (tgt := 153) (by decide) ?_
          refine a_sub (ls1 := [(0, Value.ref (ad 0)), (1, Value.ref (ad 161)), (3, Value.ref (ad 163)), (5, vI x1)]) [2, 3, 5, 7] rfl ?_
          refine a_wid 0 0 (by omega) (by omega) ?_
          exact hjj153 191 h
    · replace h := h.2.2.1 hq
      refine a_tsIn (pc := 44) a 1 hq ⟨by decide, by decide⟩ dL_acts_44 (by decide) (by decide) rfl (tgt := 108) (by decide) ?_
      clear hq
      refine a_aload_n (pc := 108) a 3 dL_acts_108 rfl rfl ?_
      refine a_iconst (pc := 109) a dL_acts_109 ?_
      refine a_iload (pc := 110) a 7 dL_acts_110 rfl ?_
      refine a_bipush (pc := 112) a dL_acts_112 (by decide) ?_
      refine a_irem (pc := 114) a dL_acts_114 h.1 (by decide) ?_
      replace h := h.2
      refine a_iast (pc := 115) a (tw hinj w2) (by decide) (by decide) dL_acts_115 ?_
      refine a_nmS (fun s21 hx => ?_)
      replace h := h s21 hx
      clear hx
      refine a_aload_n (pc := 116) a 3 dL_acts_116 rfl rfl ?_
      refine a_iconst (pc := 117) a dL_acts_117 ?_
      refine a_iload (pc := 118) a 7 dL_acts_118 rfl ?_
      refine a_bipush (pc := 120) a dL_acts_120 (by decide) ?_
      refine a_idiv (pc := 122) a dL_acts_122 h.1 (by decide) ?_
      replace h := h.2
      refine a_bipush (pc := 123) a dL_acts_123 (by decide) ?_
      refine a_irem (pc := 125) a dL_acts_125 h.1 (by decide) ?_
      replace h := h.2
      refine a_iast (pc := 126) a (tw hinj w2) (by decide) (by decide) dL_acts_126 ?_
      refine a_nmS (fun s22 hx => ?_)
      replace h := h s22 hx
      clear hx
      refine a_aload_n (pc := 127) a 3 dL_acts_127 rfl rfl ?_
      refine a_bipush (pc := 128) a dL_acts_128 (by decide) ?_
      refine a_bipush (pc := 130) a dL_acts_130 (by decide) ?_
      refine a_iload (pc := 132) a 7 dL_acts_132 rfl ?_
      refine a_sipush (pc := 134) a dL_acts_134 (by decide) ?_
      refine a_idiv (pc := 137) a dL_acts_137 h.1 (by decide) ?_
      replace h := h.2
      refine a_iload (pc := 138) a 7 dL_acts_138 rfl ?_
      refine a_iconst (pc := 140) a dL_acts_140 ?_
      refine a_irem (pc := 141) a dL_acts_141 h.1 (by decide) ?_
      replace h := h.2
      refine g_wj1 153 0 0 (fun x24 => [(0, Value.ref (ad 0)), (1, Value.ref (ad 161)), (3, Value.ref (ad 163)), (5, vI x1)]) (fun x24 => [vI x24, vI (x1 / 3600), vI 10, vI 6, Value.ref (ad 161)]) h ?_ ?_
      · clear h
        intro x24 h
        refine a_irem (pc := 153) a dL_acts_153 h.1 h.2.1 ?_
        replace h := h.2.2
        refine a_iadd (pc := 154) a dL_acts_154 ?_
        refine a_iast (pc := 155) a (tw hinj w2) (by decide) (by decide) dL_acts_155 ?_
        refine a_nmS (fun s25 hx => ?_)
        replace h := h s25 hx
        clear hx
        refine a_aload_n (pc := 156) a 1 dL_acts_156 rfl rfl ?_
        refine a_bipush (pc := 157) a dL_acts_157 (by decide) ?_
        refine a_bipush (pc := 159) a dL_acts_159 (by decide) ?_
        refine a_iload (pc := 161) a 3 dL_acts_161 rfl ?_
        refine a_bipush (pc := 163) a dL_acts_163 (by decide) ?_
        refine a_idiv (pc := 165) a dL_acts_165 h.1 (by decide) ?_
        replace h := h.2
        refine a_iload (pc := 166) a 3 dL_acts_166 rfl ?_
        refine a_iconst (pc := 168) a dL_acts_168 ?_
        refine a_irem (pc := 169) a dL_acts_169 h.1 (by decide) ?_
        replace h := h.2
        refine g_wj1 181 0 0 (fun x27 => [(0, Value.ref (ad 0)), (1, Value.ref (ad 161)), (3, Value.ref (ad 163)), (5, vI x1)]) (fun x27 => [vI x27, vI (x1 / 7), vI 10, vI 7, Value.ref (ad 161)]) h ?_ ?_
        · clear h
          intro x27 h
          refine a_irem (pc := 181) a dL_acts_181 h.1 h.2.1 ?_
          replace h := h.2.2
          refine a_iadd (pc := 182) a dL_acts_182 ?_
          refine a_iast (pc := 183) a (tw hinj w2) (by decide) (by decide) dL_acts_183 ?_
          refine a_nmS (fun s28 hx => ?_)
          replace h := h s28 hx
          clear hx
          refine a_aload_n (pc := 184) a 1 dL_acts_184 rfl rfl ?_
          refine a_bipush (pc := 185) a dL_acts_185 (by decide) ?_
          refine a_iload (pc := 187) a 3 dL_acts_187 rfl ?_
          refine a_iconst (pc := 189) a dL_acts_189 ?_
          refine a_irem (pc := 190) a dL_acts_190 h.1 (by decide) ?_
          replace h := h.2
          refine g_wj1 205 0 0 (fun x30 => [(0, Value.ref (ad 0)), (1, Value.ref (ad 161)), (3, Value.ref (ad 163))]) (fun x30 => [vI x30, vI 8, Value.ref (ad 161)]) h ?_ ?_
          · clear h
            intro x30 h
            refine a_iast (pc := 205) a (tw hinj w2) (by decide) (by decide) dL_acts_205 ?_
            refine a_nmS (fun s31 hx => ?_)
            replace h := h s31 hx
            clear hx
            refine a_aload_n (pc := 206) a 0 dL_acts_206 rfl rfl ?_
            refine a_aload_n (pc := 207) a 1 dL_acts_207 rfl rfl ?_
            refine a_iconst (pc := 208) a dL_acts_208 ?_
            refine a_iald (pc := 209) a (tw hinj w2) (by decide) (by decide) dL_acts_209 ?_
            refine a_aload_n (pc := 210) a 1 dL_acts_210 rfl rfl ?_
            refine a_iconst (pc := 211) a dL_acts_211 ?_
            refine a_iald (pc := 212) a (tw hinj w2) (by decide) (by decide) dL_acts_212 ?_
            refine a_aload_n (pc := 213) a 1 dL_acts_213 rfl rfl ?_
            refine a_bipush (pc := 214) a dL_acts_214 (by decide) ?_
            refine a_iald (pc := 216) a (tw hinj w2) (by decide) (by decide) dL_acts_216 ?_
            refine a_aload_n (pc := 217) a 1 dL_acts_217 rfl rfl ?_
            refine a_bipush (pc := 218) a dL_acts_218 (by decide) ?_
            refine a_iald (pc := 220) a (tw hinj w2) (by decide) (by decide) dL_acts_220 ?_
            refine a_aload_n (pc := 221) a 1 dL_acts_221 rfl rfl ?_
            refine a_bipush (pc := 222) a dL_acts_222 (by decide) ?_
            refine a_iald (pc := 224) a (tw hinj w2) (by decide) (by decide) dL_acts_224 ?_
            refine a_cwi (pc := 225) a (As := [Value.ref (ad 0), vI (s31 161 4), vI (s31 161 5), vI (s31 161 6), vI (s31 161 7), vI (s31 161 8)]) (rest := []) (fun sz => c_L_windows hinj hl0  h sz) (vx_cwSW 6 hts (gl_S (GL_19 _ (by decide +kernel)) (GL_19 _ (by decide +kernel)) (GL_4 _ (by decide +kernel)) (GL_19 _ (by decide +kernel))) rfl rfl rfl (by decide +kernel) ⟨Nat.le_of_ble_eq_true rfl, Nat.le_of_ble_eq_true rfl⟩) rfl rfl (Nat.le_of_ble_eq_true rfl) ⟨Nat.le_of_ble_eq_true rfl, Nat.le_of_ble_eq_true rfl⟩ dL_acts_225 ?_
            clear h
            intro x32 s33 h
            refine a_aload_n (pc := 228) a 1 dL_acts_228 rfl rfl ?_
            refine a_aload_n (pc := 229) a 2 dL_acts_229 rfl rfl ?_
            refine a_csi (pc := 230) a (As := [Value.ref (ad 161), Value.ref (ad 163)]) (rest := [vI x32]) (fun sz => c_L_shown hinj hl0  h sz) (va_cwS 2 hts (gl_S (GL_5 _ (by decide +kernel)) (GL_5 _ (by decide +kernel)) (GL_4 _ (by decide +kernel)) (GL_5 _ (by decide +kernel))) rfl rfl rfl (by decide +kernel) ⟨Nat.le_of_ble_eq_true rfl, Nat.le_of_ble_eq_true rfl⟩) rfl rfl (Nat.le_of_ble_eq_true rfl) ⟨Nat.le_of_ble_eq_true rfl, Nat.le_of_ble_eq_true rfl⟩ dL_acts_230 ?_
            rintro x34 s9 ⟨hs9, h9⟩
            subst s9
            replace h := h9
            clear h9
            refine a_csi (pc := 233) a (As := [vI x34]) (rest := [vI x32]) (fun sz => c_L_bits hinj hl0  h sz) (va_cwS 1 hts (gl_S (GL_5 _ (by decide +kernel)) (GL_5 _ (by decide +kernel)) (GL_4 _ (by decide +kernel)) (GL_5 _ (by decide +kernel))) rfl rfl rfl (by decide +kernel) ⟨Nat.le_of_ble_eq_true rfl, Nat.le_of_ble_eq_true rfl⟩) rfl rfl (Nat.le_of_ble_eq_true rfl) ⟨Nat.le_of_ble_eq_true rfl, Nat.le_of_ble_eq_true rfl⟩ dL_acts_233 ?_
            rintro x35 s9 ⟨hs9, h9⟩
            subst s9
            replace h := h9
            clear h9
            refine a_icmp_ne (pc := 236) a h.1 h.2.1 dL_acts_236 (tgt := 243) (by decide) (fun hq => ?_) (fun hq => ?_)
            · replace h := h.2.2.1 hq
              clear hq
              refine a_iconst (pc := 243) a dL_acts_243 ?_
              refine a_wid 6 36 (by omega) (by omega) ?_
              exact e_z (pc := 244) a hr (by decide) dL_acts_244 h
            · replace h := h.2.2.2 hq
              clear hq
              refine a_iconst (pc := 239) a dL_acts_239 ?_
              refine a_goto (pc := 240) a dL_acts_240 (tgt := 244) (by decide) ?_
              refine a_wid 6 36 (by omega) (by omega) ?_
              exact e_z (pc := 244) a hr (by decide) dL_acts_244 h
          · clear h
            intro jj205 hjj205 h
            refine a_if_le (pc := 191) a h.1 dL_acts_191 (tgt := 198) (by decide) (fun hq => ?_) (fun hq => ?_)
            · replace h := h.2.1 hq
              clear hq
              refine a_iload (pc := 198) a 3 dL_acts_198 rfl ?_
              refine a_iconst (pc := 200) a dL_acts_200 ?_
              refine a_idiv (pc := 201) a dL_acts_201 h.1 (by decide) ?_
              replace h := h.2
              refine a_bipush (pc := 202) a dL_acts_202 (by decide) ?_
              refine a_irem (pc := 204) a dL_acts_204 h.1 (by decide) ?_
              replace h := h.2
              refine a_sub (ls1 := [(0, Value.ref (ad 0)), (1, Value.ref (ad 161)), (3, Value.ref (ad 163))]) [0, 1, 2] rfl ?_
              exact hjj205 ((x1 / 5) % 6) h
            · replace h := h.2.2 hq
              clear hq
              refine a_iconst (pc := 194) a dL_acts_194 ?_
              refine a_goto (pc := 195) a dL_acts_195 (tgt := 205) (by decide) ?_
              refine a_sub (ls1 := [(0, Value.ref (ad 0)), (1, Value.ref (ad 161)), (3, Value.ref (ad 163))]) [0, 1, 2] rfl ?_
              exact hjj205 5 h
        · clear h
          intro jj181 hjj181 h
          refine a_if_ne (pc := 170) a h.1 dL_acts_170 (tgt := 179) (by decide) (fun hq => ?_) (fun hq => ?_)
          · replace h := h.2.1 hq
            clear hq
            refine a_bipush (pc := 179) a dL_acts_179 (by decide) ?_
            exact hjj181 60 h
          · replace h := h.2.2 hq
            clear hq
            refine a_sipush (pc := 173) a dL_acts_173 (by decide) ?_
            refine a_goto (pc := 176) a dL_acts_176 (tgt := 181) (by decide) ?_
            exact hjj181 191 h
      · clear h
        intro jj153 hjj153 h
        refine a_if_ne (pc := 142) a h.1 dL_acts_142 (tgt := 151) (by decide) (fun hq => ?_) (fun hq => ?_)
        · replace h := h.2.1 hq
          clear hq
          refine a_bipush (pc := 151) a dL_acts_151 (by decide) ?_
          refine a_sub (ls1 := [(0, Value.ref (ad 0)), (1, Value.ref (ad 161)), (3, Value.ref (ad 163)), (5, vI x1)]) [2, 3, 5, 7] rfl ?_
          refine a_wid 0 0 (by omega) (by omega) ?_
          exact hjj153 60 h
        · replace h := h.2.2 hq
          clear hq
          refine a_sipush (pc := 145) a dL_acts_145 (by decide) ?_
          refine a_goto (pc := 148) a dL_acts_148 (tgt := 153) (by decide) ?_
          refine a_sub (ls1 := [(0, Value.ref (ad 0)), (1, Value.ref (ad 161)), (3, Value.ref (ad 163)), (5, vI x1)]) [2, 3, 5, 7] rfl ?_
          refine a_wid 0 0 (by omega) (by omega) ?_
          exact hjj153 191 h
    · replace h := h.2.2.2.1 hq
      refine a_tsIn (pc := 44) a 2 hq ⟨by decide, by decide⟩ dL_acts_44 (by decide) (by decide) rfl (tgt := 245) (by decide) ?_
      clear hq
      refine a_iload (pc := 245) a 7 dL_acts_245 rfl ?_
      refine a_iconst (pc := 247) a dL_acts_247 ?_
      refine a_idiv (pc := 248) a dL_acts_248 h.1 (by decide) ?_
      replace h := h.2
      refine a_iconst (pc := 249) a dL_acts_249 ?_
      refine a_irem (pc := 250) a dL_acts_250 h.1 (by decide) ?_
      replace h := h.2
      refine a_nm (fun x36 hx => ?_)
      replace h := h x36 hx
      clear hx
      refine a_istore (pc := 251) a (ls1 := [(8, vI x36), (7, vI x4), (6, vI x3), (0, Value.ref (ad 0)), (1, Value.ref (ad 161)), (2, Value.ref (ad 162)), (3, Value.ref (ad 163)), (4, vI p5), (5, vI x1)]) dL_acts_251 (by decide) rfl ?_
      refine a_iconst (pc := 253) a dL_acts_253 ?_
      refine a_iload (pc := 254) a 8 dL_acts_254 rfl ?_
      refine a_bipush (pc := 256) a dL_acts_256 (by decide) ?_
      refine a_idiv (pc := 258) a dL_acts_258 h.1 (by decide) ?_
      replace h := h.2
      refine a_iload (pc := 259) a 0 dL_acts_259 rfl ?_
      refine g_wj1 292 0 0 (fun x38 => [(0, Value.ref (ad 0)), (1, Value.ref (ad 161)), (8, vI x36)]) (fun x38 => [vI x38, vI (x1 / 16), vI 1]) h ?_ ?_
      · clear h
        intro x38 h
        refine a_irem (pc := 292) a dL_acts_292 h.1 h.2.1 ?_
        replace h := h.2.2
        refine a_iadd (pc := 293) a dL_acts_293 ?_
        refine a_nm (fun x39 hx => ?_)
        replace h := h x39 hx
        clear hx
        refine a_istore (pc := 294) a (ls1 := [(9, vI x39), (0, Value.ref (ad 0)), (1, Value.ref (ad 161)), (8, vI x36)]) dL_acts_294 (by decide) rfl ?_
        refine a_aload_n (pc := 296) a 2 dL_acts_296 rfl rfl ?_
        refine a_iload (pc := 297) a 3 dL_acts_297 rfl ?_
        refine a_iald (pc := 299) a (tw hinj w2) (by decide) h.1 dL_acts_299 ?_
        replace h := h.2
        refine a_nm (fun x40 hx => ?_)
        replace h := h x40 hx
        clear hx
        refine a_istore (pc := 300) a (ls1 := [(10, vI x40), (9, vI x39), (0, Value.ref (ad 0)), (1, Value.ref (ad 161)), (8, vI x36)]) dL_acts_300 (by decide) rfl ?_
        refine a_aload_n (pc := 302) a 3 dL_acts_302 rfl rfl ?_
        refine a_iload (pc := 303) a 4 dL_acts_303 rfl ?_
        refine a_iload (pc := 305) a 1 dL_acts_305 rfl ?_
        refine a_iast (pc := 307) a (tw hinj w2) (by decide) h.1 dL_acts_307 ?_
        replace h := h.2
        refine a_nmS (fun s41 hx => ?_)
        replace h := h s41 hx
        clear hx
        refine a_aload_n (pc := 308) a 2 dL_acts_308 rfl rfl ?_
        refine a_iload (pc := 309) a 4 dL_acts_309 rfl ?_
        refine a_iload (pc := 311) a 1 dL_acts_311 rfl ?_
        refine a_cwi (pc := 313) a (As := [Value.ref (ad 0), vI x36, vI x39]) (rest := []) (fun sz => c_L_sets hinj hl0  h sz) (vx_cwSW 3 hts (gl_S (GL_21 _ (by decide +kernel)) (GL_21 _ (by decide +kernel)) (GL_4 _ (by decide +kernel)) (GL_21 _ (by decide +kernel))) rfl rfl rfl (by decide +kernel) ⟨Nat.le_of_ble_eq_true rfl, Nat.le_of_ble_eq_true rfl⟩) rfl rfl (Nat.le_of_ble_eq_true rfl) ⟨Nat.le_of_ble_eq_true rfl, Nat.le_of_ble_eq_true rfl⟩ dL_acts_313 ?_
        clear h
        intro x42 s43 h
        refine a_iload (pc := 316) a 0 dL_acts_316 rfl ?_
        refine a_icmp_ne (pc := 318) a h.1 h.2.1 dL_acts_318 (tgt := 325) (by decide) (fun hq => ?_) (fun hq => ?_)
        · replace h := h.2.2.1 hq
          clear hq
          refine a_iconst (pc := 325) a dL_acts_325 ?_
          refine a_wid 6 36 (by omega) (by omega) ?_
          exact e_z (pc := 326) a hr (by decide) dL_acts_326 h
        · replace h := h.2.2.2 hq
          clear hq
          refine a_iconst (pc := 321) a dL_acts_321 ?_
          refine a_goto (pc := 322) a dL_acts_322 (tgt := 326) (by decide) ?_
          refine a_wid 6 36 (by omega) (by omega) ?_
          exact e_z (pc := 326) a hr (by decide) dL_acts_326 h
      · clear h
        intro jj292 hjj292 h
        refine a_if_ne (pc := 261) a h.1 dL_acts_261 (tgt := 269) (by decide) (fun hq => ?_) (fun hq => ?_)
        · replace h := h.2.1 hq
          clear hq
          refine a_iload (pc := 269) a 0 dL_acts_269 rfl ?_
          refine a_iconst (pc := 271) a dL_acts_271 ?_
          refine a_icmp_ne (pc := 272) a h.1 ⟨by decide, by decide⟩ dL_acts_272 (tgt := 279) (by decide) (fun hq => ?_) (fun hq => ?_)
          · replace h := h.2.1 hq
            clear hq
            refine a_iload (pc := 279) a 0 dL_acts_279 rfl ?_
            refine a_iconst (pc := 281) a dL_acts_281 ?_
            refine a_icmp_ne (pc := 282) a h.1 ⟨by decide, by decide⟩ dL_acts_282 (tgt := 290) (by decide) (fun hq => ?_) (fun hq => ?_)
            · replace h := h.2.1 hq
              clear hq
              refine a_bipush (pc := 290) a dL_acts_290 (by decide) ?_
              refine a_sub (ls1 := [(0, Value.ref (ad 0)), (1, Value.ref (ad 161)), (8, vI x36)]) [3, 4, 0] rfl ?_
              refine a_wid 0 0 (by omega) (by omega) ?_
              exact hjj292 20 h
            · replace h := h.2.2 hq
              clear hq
              refine a_bipush (pc := 285) a dL_acts_285 (by decide) ?_
              refine a_goto (pc := 287) a dL_acts_287 (tgt := 292) (by decide) ?_
              refine a_sub (ls1 := [(0, Value.ref (ad 0)), (1, Value.ref (ad 161)), (8, vI x36)]) [3, 4, 0] rfl ?_
              refine a_wid 0 0 (by omega) (by omega) ?_
              exact hjj292 60 h
          · replace h := h.2.2 hq
            clear hq
            refine a_iconst (pc := 275) a dL_acts_275 ?_
            refine a_goto (pc := 276) a dL_acts_276 (tgt := 292) (by decide) ?_
            refine a_sub (ls1 := [(0, Value.ref (ad 0)), (1, Value.ref (ad 161)), (8, vI x36)]) [3, 4, 0] rfl ?_
            refine a_wid 0 0 (by omega) (by omega) ?_
            exact hjj292 4 h
        · replace h := h.2.2 hq
          clear hq
          refine a_bipush (pc := 264) a dL_acts_264 (by decide) ?_
          refine a_goto (pc := 266) a dL_acts_266 (tgt := 292) (by decide) ?_
          refine a_sub (ls1 := [(0, Value.ref (ad 0)), (1, Value.ref (ad 161)), (8, vI x36)]) [3, 4, 0] rfl ?_
          refine a_wid 0 0 (by omega) (by omega) ?_
          exact hjj292 6 h
    · replace h := h.2.2.2.2.1 hq
      refine a_tsIn (pc := 44) a 3 hq ⟨by decide, by decide⟩ dL_acts_44 (by decide) (by decide) rfl (tgt := 245) (by decide) ?_
      clear hq
      refine a_iload (pc := 245) a 7 dL_acts_245 rfl ?_
      refine a_iconst (pc := 247) a dL_acts_247 ?_
      refine a_idiv (pc := 248) a dL_acts_248 h.1 (by decide) ?_
      replace h := h.2
      refine a_iconst (pc := 249) a dL_acts_249 ?_
      refine a_irem (pc := 250) a dL_acts_250 h.1 (by decide) ?_
      replace h := h.2
      refine a_nm (fun x44 hx => ?_)
      replace h := h x44 hx
      clear hx
      refine a_istore (pc := 251) a (ls1 := [(8, vI x44), (7, vI x4), (6, vI x3), (0, Value.ref (ad 0)), (1, Value.ref (ad 161)), (2, Value.ref (ad 162)), (3, Value.ref (ad 163)), (4, vI p5), (5, vI x1)]) dL_acts_251 (by decide) rfl ?_
      refine a_iconst (pc := 253) a dL_acts_253 ?_
      refine a_iload (pc := 254) a 8 dL_acts_254 rfl ?_
      refine a_bipush (pc := 256) a dL_acts_256 (by decide) ?_
      refine a_idiv (pc := 258) a dL_acts_258 h.1 (by decide) ?_
      replace h := h.2
      refine a_iload (pc := 259) a 0 dL_acts_259 rfl ?_
      refine g_wj1 292 0 0 (fun x46 => [(0, Value.ref (ad 0)), (1, Value.ref (ad 161)), (8, vI x44)]) (fun x46 => [vI x46, vI (x1 / 16), vI 1]) h ?_ ?_
      · clear h
        intro x46 h
        refine a_irem (pc := 292) a dL_acts_292 h.1 h.2.1 ?_
        replace h := h.2.2
        refine a_iadd (pc := 293) a dL_acts_293 ?_
        refine a_nm (fun x47 hx => ?_)
        replace h := h x47 hx
        clear hx
        refine a_istore (pc := 294) a (ls1 := [(9, vI x47), (0, Value.ref (ad 0)), (1, Value.ref (ad 161)), (8, vI x44)]) dL_acts_294 (by decide) rfl ?_
        refine a_aload_n (pc := 296) a 2 dL_acts_296 rfl rfl ?_
        refine a_iload (pc := 297) a 3 dL_acts_297 rfl ?_
        refine a_iald (pc := 299) a (tw hinj w2) (by decide) h.1 dL_acts_299 ?_
        replace h := h.2
        refine a_nm (fun x48 hx => ?_)
        replace h := h x48 hx
        clear hx
        refine a_istore (pc := 300) a (ls1 := [(10, vI x48), (9, vI x47), (0, Value.ref (ad 0)), (1, Value.ref (ad 161)), (8, vI x44)]) dL_acts_300 (by decide) rfl ?_
        refine a_aload_n (pc := 302) a 3 dL_acts_302 rfl rfl ?_
        refine a_iload (pc := 303) a 4 dL_acts_303 rfl ?_
        refine a_iload (pc := 305) a 1 dL_acts_305 rfl ?_
        refine a_iast (pc := 307) a (tw hinj w2) (by decide) h.1 dL_acts_307 ?_
        replace h := h.2
        refine a_nmS (fun s49 hx => ?_)
        replace h := h s49 hx
        clear hx
        refine a_aload_n (pc := 308) a 2 dL_acts_308 rfl rfl ?_
        refine a_iload (pc := 309) a 4 dL_acts_309 rfl ?_
        refine a_iload (pc := 311) a 1 dL_acts_311 rfl ?_
        refine a_cwi (pc := 313) a (As := [Value.ref (ad 0), vI x44, vI x47]) (rest := []) (fun sz => c_L_sets hinj hl0  h sz) (vx_cwSW 3 hts (gl_S (GL_21 _ (by decide +kernel)) (GL_21 _ (by decide +kernel)) (GL_4 _ (by decide +kernel)) (GL_21 _ (by decide +kernel))) rfl rfl rfl (by decide +kernel) ⟨Nat.le_of_ble_eq_true rfl, Nat.le_of_ble_eq_true rfl⟩) rfl rfl (Nat.le_of_ble_eq_true rfl) ⟨Nat.le_of_ble_eq_true rfl, Nat.le_of_ble_eq_true rfl⟩ dL_acts_313 ?_
        clear h
        intro x50 s51 h
        refine a_iload (pc := 316) a 0 dL_acts_316 rfl ?_
        refine a_icmp_ne (pc := 318) a h.1 h.2.1 dL_acts_318 (tgt := 325) (by decide) (fun hq => ?_) (fun hq => ?_)
        · replace h := h.2.2.1 hq
          clear hq
          refine a_iconst (pc := 325) a dL_acts_325 ?_
          refine a_wid 6 36 (by omega) (by omega) ?_
          exact e_z (pc := 326) a hr (by decide) dL_acts_326 h
        · replace h := h.2.2.2 hq
          clear hq
          refine a_iconst (pc := 321) a dL_acts_321 ?_
          refine a_goto (pc := 322) a dL_acts_322 (tgt := 326) (by decide) ?_
          refine a_wid 6 36 (by omega) (by omega) ?_
          exact e_z (pc := 326) a hr (by decide) dL_acts_326 h
      · clear h
        intro jj292 hjj292 h
        refine a_if_ne (pc := 261) a h.1 dL_acts_261 (tgt := 269) (by decide) (fun hq => ?_) (fun hq => ?_)
        · replace h := h.2.1 hq
          clear hq
          refine a_iload (pc := 269) a 0 dL_acts_269 rfl ?_
          refine a_iconst (pc := 271) a dL_acts_271 ?_
          refine a_icmp_ne (pc := 272) a h.1 ⟨by decide, by decide⟩ dL_acts_272 (tgt := 279) (by decide) (fun hq => ?_) (fun hq => ?_)
          · replace h := h.2.1 hq
            clear hq
            refine a_iload (pc := 279) a 0 dL_acts_279 rfl ?_
            refine a_iconst (pc := 281) a dL_acts_281 ?_
            refine a_icmp_ne (pc := 282) a h.1 ⟨by decide, by decide⟩ dL_acts_282 (tgt := 290) (by decide) (fun hq => ?_) (fun hq => ?_)
            · replace h := h.2.1 hq
              clear hq
              refine a_bipush (pc := 290) a dL_acts_290 (by decide) ?_
              refine a_sub (ls1 := [(0, Value.ref (ad 0)), (1, Value.ref (ad 161)), (8, vI x44)]) [3, 4, 0] rfl ?_
              refine a_wid 0 0 (by omega) (by omega) ?_
              exact hjj292 20 h
            · replace h := h.2.2 hq
              clear hq
              refine a_bipush (pc := 285) a dL_acts_285 (by decide) ?_
              refine a_goto (pc := 287) a dL_acts_287 (tgt := 292) (by decide) ?_
              refine a_sub (ls1 := [(0, Value.ref (ad 0)), (1, Value.ref (ad 161)), (8, vI x44)]) [3, 4, 0] rfl ?_
              refine a_wid 0 0 (by omega) (by omega) ?_
              exact hjj292 60 h
          · replace h := h.2.2 hq
            clear hq
            refine a_iconst (pc := 275) a dL_acts_275 ?_
            refine a_goto (pc := 276) a dL_acts_276 (tgt := 292) (by decide) ?_
            refine a_sub (ls1 := [(0, Value.ref (ad 0)), (1, Value.ref (ad 161)), (8, vI x44)]) [3, 4, 0] rfl ?_
            refine a_wid 0 0 (by omega) (by omega) ?_
            exact hjj292 4 h
        · replace h := h.2.2 hq
          clear hq
          refine a_bipush (pc := 264) a dL_acts_264 (by decide) ?_
          refine a_goto (pc := 266) a dL_acts_266 (tgt := 292) (by decide) ?_
          refine a_sub (ls1 := [(0, Value.ref (ad 0)), (1, Value.ref (ad 161)), (8, vI x44)]) [3, 4, 0] rfl ?_
          refine a_wid 0 0 (by omega) (by omega) ?_
          exact hjj292 6 h
    · replace h := h.2.2.2.2.2.1 hq
      refine a_tsIn (pc := 44) a 4 hq ⟨by decide, by decide⟩ dL_acts_44 (by decide) (by decide) rfl (tgt := 327) (by decide) ?_
      clear hq
      refine a_aload_n (pc := 327) a 4 dL_acts_327 rfl rfl ?_
      refine a_bipush (pc := 328) a dL_acts_328 (by decide) ?_
      refine a_iload (pc := 330) a 0 dL_acts_330 rfl ?_
      refine a_imul (pc := 332) a dL_acts_332 ?_
      refine a_iald (pc := 333) a (tw hinj w3) (by decide) h.1 dL_acts_333 ?_
      replace h := h.2
      refine a_nm (fun x52 hx => ?_)
      replace h := h x52 hx
      clear hx
      refine a_istore (pc := 334) a (ls1 := [(11, vI x52), (7, vI x4), (6, vI x3), (0, Value.ref (ad 0)), (1, Value.ref (ad 161)), (2, Value.ref (ad 162)), (3, Value.ref (ad 163)), (4, vI p5), (5, vI x1)]) dL_acts_334 (by decide) rfl ?_
      refine a_aload_n (pc := 336) a 5 dL_acts_336 rfl rfl ?_
      refine a_bipush (pc := 337) a dL_acts_337 (by decide) ?_
      refine a_iload (pc := 339) a 1 dL_acts_339 rfl ?_
      refine a_imul (pc := 341) a dL_acts_341 ?_
      refine a_iload (pc := 342) a 8 dL_acts_342 rfl ?_
      refine a_iconst (pc := 344) a dL_acts_344 ?_
      refine a_idiv (pc := 345) a dL_acts_345 h.1 (by decide) ?_
      replace h := h.2
      refine a_bipush (pc := 346) a dL_acts_346 (by decide) ?_
      refine a_irem (pc := 348) a dL_acts_348 h.1 (by decide) ?_
      replace h := h.2
      refine a_iast (pc := 349) a (tw hinj w3) (by decide) h.1 dL_acts_349 ?_
      replace h := h.2
      refine a_nmS (fun s53 hx => ?_)
      replace h := h s53 hx
      clear hx
      refine a_aload_n (pc := 350) a 5 dL_acts_350 rfl rfl ?_
      refine a_bipush (pc := 351) a dL_acts_351 (by decide) ?_
      refine a_iload (pc := 353) a 1 dL_acts_353 rfl ?_
      refine a_imul (pc := 355) a dL_acts_355 ?_
      refine a_iconst (pc := 356) a dL_acts_356 ?_
      refine a_iadd (pc := 357) a dL_acts_357 ?_
      refine a_iload (pc := 358) a 8 dL_acts_358 rfl ?_
      refine a_bipush (pc := 360) a dL_acts_360 (by decide) ?_
      refine a_idiv (pc := 362) a dL_acts_362 h.1 (by decide) ?_
      replace h := h.2
      refine a_iconst (pc := 363) a dL_acts_363 ?_
      refine a_irem (pc := 364) a dL_acts_364 h.1 (by decide) ?_
      replace h := h.2
      refine a_iconst (pc := 365) a dL_acts_365 ?_
      refine a_isub (pc := 366) a dL_acts_366 ?_
      refine a_iast (pc := 367) a (tw hinj w3) (by decide) h.1 dL_acts_367 ?_
      replace h := h.2
      refine a_nmS (fun s54 hx => ?_)
      replace h := h s54 hx
      clear hx
      refine a_aload_n (pc := 368) a 3 dL_acts_368 rfl rfl ?_
      refine a_iload (pc := 369) a 1 dL_acts_369 rfl ?_
      refine a_aload_n (pc := 371) a 5 dL_acts_371 rfl rfl ?_
      refine a_bipush (pc := 372) a dL_acts_372 (by decide) ?_
      refine a_iload (pc := 374) a 1 dL_acts_374 rfl ?_
      refine a_imul (pc := 376) a dL_acts_376 ?_
      refine a_iald (pc := 377) a (tw hinj w3) (by decide) h.1 dL_acts_377 ?_
      replace h := h.2
      refine a_aload_n (pc := 378) a 5 dL_acts_378 rfl rfl ?_
      refine a_bipush (pc := 379) a dL_acts_379 (by decide) ?_
      refine a_iload (pc := 381) a 1 dL_acts_381 rfl ?_
      refine a_imul (pc := 383) a dL_acts_383 ?_
      refine a_iconst (pc := 384) a dL_acts_384 ?_
      refine a_iadd (pc := 385) a dL_acts_385 ?_
      refine a_iald (pc := 386) a (tw hinj w3) (by decide) h.1 dL_acts_386 ?_
      replace h := h.2
      refine a_cwi (pc := 387) a (As := [Value.ref (ad 0), vI x4, vI (s54 162 (8 * x4)), vI (s54 162 ((8 * x4) + 1))]) (rest := []) (fun sz => c_L_kinds hinj hl0  h sz) (vx_cwSW 4 hts (gl_S (GL_21 _ (by decide +kernel)) (GL_21 _ (by decide +kernel)) (GL_4 _ (by decide +kernel)) (GL_21 _ (by decide +kernel))) rfl rfl rfl (by decide +kernel) ⟨Nat.le_of_ble_eq_true rfl, Nat.le_of_ble_eq_true rfl⟩) rfl rfl (Nat.le_of_ble_eq_true rfl) ⟨Nat.le_of_ble_eq_true rfl, Nat.le_of_ble_eq_true rfl⟩ dL_acts_387 ?_
      clear h
      intro x55 s56 h
      refine a_iload (pc := 390) a 0 dL_acts_390 rfl ?_
      refine a_icmp_ne (pc := 392) a h.1 h.2.1 dL_acts_392 (tgt := 399) (by decide) (fun hq => ?_) (fun hq => ?_)
      · replace h := h.2.2.1 hq
        clear hq
        refine a_iconst (pc := 399) a dL_acts_399 ?_
        refine a_wid 6 36 (by omega) (by omega) ?_
        exact e_z (pc := 400) a hr (by decide) dL_acts_400 h
      · replace h := h.2.2.2 hq
        clear hq
        refine a_iconst (pc := 395) a dL_acts_395 ?_
        refine a_goto (pc := 396) a dL_acts_396 (tgt := 400) (by decide) ?_
        refine a_wid 6 36 (by omega) (by omega) ?_
        exact e_z (pc := 400) a hr (by decide) dL_acts_400 h
    · replace h := h.2.2.2.2.2.2.1 hq
      refine a_tsIn (pc := 44) a 5 hq ⟨by decide, by decide⟩ dL_acts_44 (by decide) (by decide) rfl (tgt := 327) (by decide) ?_
      clear hq
      refine a_aload_n (pc := 327) a 4 dL_acts_327 rfl rfl ?_
      refine a_bipush (pc := 328) a dL_acts_328 (by decide) ?_
      refine a_iload (pc := 330) a 0 dL_acts_330 rfl ?_
      refine a_imul (pc := 332) a dL_acts_332 ?_
      refine a_iald (pc := 333) a (tw hinj w3) (by decide) h.1 dL_acts_333 ?_
      replace h := h.2
      refine a_nm (fun x57 hx => ?_)
      replace h := h x57 hx
      clear hx
      refine a_istore (pc := 334) a (ls1 := [(11, vI x57), (7, vI x4), (6, vI x3), (0, Value.ref (ad 0)), (1, Value.ref (ad 161)), (2, Value.ref (ad 162)), (3, Value.ref (ad 163)), (4, vI p5), (5, vI x1)]) dL_acts_334 (by decide) rfl ?_
      refine a_aload_n (pc := 336) a 5 dL_acts_336 rfl rfl ?_
      refine a_bipush (pc := 337) a dL_acts_337 (by decide) ?_
      refine a_iload (pc := 339) a 1 dL_acts_339 rfl ?_
      refine a_imul (pc := 341) a dL_acts_341 ?_
      refine a_iload (pc := 342) a 8 dL_acts_342 rfl ?_
      refine a_iconst (pc := 344) a dL_acts_344 ?_
      refine a_idiv (pc := 345) a dL_acts_345 h.1 (by decide) ?_
      replace h := h.2
      refine a_bipush (pc := 346) a dL_acts_346 (by decide) ?_
      refine a_irem (pc := 348) a dL_acts_348 h.1 (by decide) ?_
      replace h := h.2
      refine a_iast (pc := 349) a (tw hinj w3) (by decide) h.1 dL_acts_349 ?_
      replace h := h.2
      refine a_nmS (fun s58 hx => ?_)
      replace h := h s58 hx
      clear hx
      refine a_aload_n (pc := 350) a 5 dL_acts_350 rfl rfl ?_
      refine a_bipush (pc := 351) a dL_acts_351 (by decide) ?_
      refine a_iload (pc := 353) a 1 dL_acts_353 rfl ?_
      refine a_imul (pc := 355) a dL_acts_355 ?_
      refine a_iconst (pc := 356) a dL_acts_356 ?_
      refine a_iadd (pc := 357) a dL_acts_357 ?_
      refine a_iload (pc := 358) a 8 dL_acts_358 rfl ?_
      refine a_bipush (pc := 360) a dL_acts_360 (by decide) ?_
      refine a_idiv (pc := 362) a dL_acts_362 h.1 (by decide) ?_
      replace h := h.2
      refine a_iconst (pc := 363) a dL_acts_363 ?_
      refine a_irem (pc := 364) a dL_acts_364 h.1 (by decide) ?_
      replace h := h.2
      refine a_iconst (pc := 365) a dL_acts_365 ?_
      refine a_isub (pc := 366) a dL_acts_366 ?_
      refine a_iast (pc := 367) a (tw hinj w3) (by decide) h.1 dL_acts_367 ?_
      replace h := h.2
      refine a_nmS (fun s59 hx => ?_)
      replace h := h s59 hx
      clear hx
      refine a_aload_n (pc := 368) a 3 dL_acts_368 rfl rfl ?_
      refine a_iload (pc := 369) a 1 dL_acts_369 rfl ?_
      refine a_aload_n (pc := 371) a 5 dL_acts_371 rfl rfl ?_
      refine a_bipush (pc := 372) a dL_acts_372 (by decide) ?_
      refine a_iload (pc := 374) a 1 dL_acts_374 rfl ?_
      refine a_imul (pc := 376) a dL_acts_376 ?_
      refine a_iald (pc := 377) a (tw hinj w3) (by decide) h.1 dL_acts_377 ?_
      replace h := h.2
      refine a_aload_n (pc := 378) a 5 dL_acts_378 rfl rfl ?_
      refine a_bipush (pc := 379) a dL_acts_379 (by decide) ?_
      refine a_iload (pc := 381) a 1 dL_acts_381 rfl ?_
      refine a_imul (pc := 383) a dL_acts_383 ?_
      refine a_iconst (pc := 384) a dL_acts_384 ?_
      refine a_iadd (pc := 385) a dL_acts_385 ?_
      refine a_iald (pc := 386) a (tw hinj w3) (by decide) h.1 dL_acts_386 ?_
      replace h := h.2
      refine a_cwi (pc := 387) a (As := [Value.ref (ad 0), vI x4, vI (s59 162 (8 * x4)), vI (s59 162 ((8 * x4) + 1))]) (rest := []) (fun sz => c_L_kinds hinj hl0  h sz) (vx_cwSW 4 hts (gl_S (GL_21 _ (by decide +kernel)) (GL_21 _ (by decide +kernel)) (GL_4 _ (by decide +kernel)) (GL_21 _ (by decide +kernel))) rfl rfl rfl (by decide +kernel) ⟨Nat.le_of_ble_eq_true rfl, Nat.le_of_ble_eq_true rfl⟩) rfl rfl (Nat.le_of_ble_eq_true rfl) ⟨Nat.le_of_ble_eq_true rfl, Nat.le_of_ble_eq_true rfl⟩ dL_acts_387 ?_
      clear h
      intro x60 s61 h
      refine a_iload (pc := 390) a 0 dL_acts_390 rfl ?_
      refine a_icmp_ne (pc := 392) a h.1 h.2.1 dL_acts_392 (tgt := 399) (by decide) (fun hq => ?_) (fun hq => ?_)
      · replace h := h.2.2.1 hq
        clear hq
        refine a_iconst (pc := 399) a dL_acts_399 ?_
        refine a_wid 6 36 (by omega) (by omega) ?_
        exact e_z (pc := 400) a hr (by decide) dL_acts_400 h
      · replace h := h.2.2.2 hq
        clear hq
        refine a_iconst (pc := 395) a dL_acts_395 ?_
        refine a_goto (pc := 396) a dL_acts_396 (tgt := 400) (by decide) ?_
        refine a_wid 6 36 (by omega) (by omega) ?_
        exact e_z (pc := 400) a hr (by decide) dL_acts_400 h
    · replace h := h.2.2.2.2.2.2.2.1 hq
      refine a_tsIn (pc := 44) a 6 hq ⟨by decide, by decide⟩ dL_acts_44 (by decide) (by decide) rfl (tgt := 401) (by decide) ?_
      clear hq
      refine a_aload_n (pc := 401) a 3 dL_acts_401 rfl rfl ?_
      refine a_bipush (pc := 402) a dL_acts_402 (by decide) ?_
      refine a_iload (pc := 404) a 7 dL_acts_404 rfl ?_
      refine a_iconst (pc := 406) a dL_acts_406 ?_
      refine a_irem (pc := 407) a dL_acts_407 h.1 (by decide) ?_
      replace h := h.2
      refine a_iadd (pc := 408) a dL_acts_408 ?_
      refine a_iald (pc := 409) a (tw hinj w2) (by decide) h.1 dL_acts_409 ?_
      replace h := h.2
      refine a_nm (fun x62 hx => ?_)
      replace h := h x62 hx
      clear hx
      refine a_istore (pc := 410) a (ls1 := [(12, vI x62), (7, vI x4), (6, vI x3), (0, Value.ref (ad 0)), (1, Value.ref (ad 161)), (2, Value.ref (ad 162)), (3, Value.ref (ad 163)), (4, vI p5), (5, vI x1)]) dL_acts_410 (by decide) rfl ?_
      refine a_aload_n (pc := 412) a 4 dL_acts_412 rfl rfl ?_
      refine a_bipush (pc := 413) a dL_acts_413 (by decide) ?_
      refine a_iload (pc := 415) a 8 dL_acts_415 rfl ?_
      refine a_iconst (pc := 417) a dL_acts_417 ?_
      refine a_irem (pc := 418) a dL_acts_418 h.1 (by decide) ?_
      replace h := h.2
      refine a_iadd (pc := 419) a dL_acts_419 ?_
      refine a_iload (pc := 420) a 8 dL_acts_420 rfl ?_
      refine a_iconst (pc := 422) a dL_acts_422 ?_
      refine a_idiv (pc := 423) a dL_acts_423 h.1 (by decide) ?_
      replace h := h.2
      refine a_iconst (pc := 424) a dL_acts_424 ?_
      refine a_irem (pc := 425) a dL_acts_425 h.1 (by decide) ?_
      replace h := h.2
      refine g_wj1 434 0 0 (fun x64 => [(0, Value.ref (ad 0)), (1, Value.ref (ad 161)), (5, vI x1), (12, vI x62)]) (fun x64 => [vI x64, vI (10 + (x1 % 3)), Value.ref (ad 161)]) h ?_ ?_
      · clear h
        intro x64 h
        refine a_iast (pc := 434) a (tw hinj w2) (by decide) h.1 dL_acts_434 ?_
        replace h := h.2
        refine a_nmS (fun s65 hx => ?_)
        replace h := h s65 hx
        clear hx
        refine a_aload_n (pc := 435) a 0 dL_acts_435 rfl rfl ?_
        refine a_iload (pc := 436) a 2 dL_acts_436 rfl ?_
        refine a_iconst (pc := 438) a dL_acts_438 ?_
        refine a_irem (pc := 439) a dL_acts_439 h.1 (by decide) ?_
        replace h := h.2
        refine a_aload_n (pc := 440) a 1 dL_acts_440 rfl rfl ?_
        refine a_bipush (pc := 441) a dL_acts_441 (by decide) ?_
        refine a_iload (pc := 443) a 2 dL_acts_443 rfl ?_
        refine a_iconst (pc := 445) a dL_acts_445 ?_
        refine a_irem (pc := 446) a dL_acts_446 h.1 (by decide) ?_
        replace h := h.2
        refine a_iadd (pc := 447) a dL_acts_447 ?_
        refine a_iald (pc := 448) a (tw hinj w2) (by decide) h.1 dL_acts_448 ?_
        replace h := h.2
        refine a_cwi (pc := 449) a (As := [Value.ref (ad 0), vI (x1 % 3), vI (s65 161 (10 + (x1 % 3)))]) (rest := []) (fun sz => c_L_ways hinj hl0  h sz) (vx_cwSW 3 hts (gl_S (GL_21 _ (by decide +kernel)) (GL_21 _ (by decide +kernel)) (GL_4 _ (by decide +kernel)) (GL_21 _ (by decide +kernel))) rfl rfl rfl (by decide +kernel) ⟨Nat.le_of_ble_eq_true rfl, Nat.le_of_ble_eq_true rfl⟩) rfl rfl (Nat.le_of_ble_eq_true rfl) ⟨Nat.le_of_ble_eq_true rfl, Nat.le_of_ble_eq_true rfl⟩ dL_acts_449 ?_
        clear h
        intro x66 s67 h
        refine a_iload (pc := 452) a 3 dL_acts_452 rfl ?_
        refine a_icmp_ne (pc := 454) a h.1 h.2.1 dL_acts_454 (tgt := 461) (by decide) (fun hq => ?_) (fun hq => ?_)
        · replace h := h.2.2.1 hq
          clear hq
          refine a_iconst (pc := 461) a dL_acts_461 ?_
          refine a_wid 6 36 (by omega) (by omega) ?_
          exact e_z (pc := 462) a hr (by decide) dL_acts_462 h
        · replace h := h.2.2.2 hq
          clear hq
          refine a_iconst (pc := 457) a dL_acts_457 ?_
          refine a_goto (pc := 458) a dL_acts_458 (tgt := 462) (by decide) ?_
          refine a_wid 6 36 (by omega) (by omega) ?_
          exact e_z (pc := 462) a hr (by decide) dL_acts_462 h
      · clear h
        intro jj434 hjj434 h
        refine a_if_le (pc := 426) a h.1 dL_acts_426 (tgt := 433) (by decide) (fun hq => ?_) (fun hq => ?_)
        · replace h := h.2.1 hq
          clear hq
          refine a_iconst (pc := 433) a dL_acts_433 ?_
          refine a_sub (ls1 := [(0, Value.ref (ad 0)), (1, Value.ref (ad 161)), (5, vI x1), (12, vI x62)]) [3, 4, 8, 0] rfl ?_
          refine a_wid 0 0 (by omega) (by omega) ?_
          exact hjj434 0 h
        · replace h := h.2.2 hq
          clear hq
          refine a_iconst (pc := 429) a dL_acts_429 ?_
          refine a_goto (pc := 430) a dL_acts_430 (tgt := 434) (by decide) ?_
          refine a_sub (ls1 := [(0, Value.ref (ad 0)), (1, Value.ref (ad 161)), (5, vI x1), (12, vI x62)]) [3, 4, 8, 0] rfl ?_
          refine a_wid 0 0 (by omega) (by omega) ?_
          exact hjj434 1 h
    · replace h := h.2.2.2.2.2.2.2.2.1 hq
      refine a_tsIn (pc := 44) a 7 hq ⟨by decide, by decide⟩ dL_acts_44 (by decide) (by decide) rfl (tgt := 463) (by decide) ?_
      clear hq
      refine a_iconst (pc := 463) a dL_acts_463 ?_
      refine a_iload (pc := 464) a 7 dL_acts_464 rfl ?_
      refine a_iconst (pc := 466) a dL_acts_466 ?_
      refine a_idiv (pc := 467) a dL_acts_467 h.1 (by decide) ?_
      replace h := h.2
      refine a_bipush (pc := 468) a dL_acts_468 (by decide) ?_
      refine a_irem (pc := 470) a dL_acts_470 h.1 (by decide) ?_
      replace h := h.2
      refine a_bipush (pc := 471) a dL_acts_471 (by decide) ?_
      refine a_imul (pc := 473) a dL_acts_473 ?_
      refine a_iadd (pc := 474) a dL_acts_474 ?_
      refine a_nm (fun x68 hx => ?_)
      replace h := h x68 hx
      clear hx
      refine a_istore (pc := 475) a (ls1 := [(13, vI x68), (7, vI x4), (6, vI x3), (0, Value.ref (ad 0)), (1, Value.ref (ad 161)), (2, Value.ref (ad 162)), (3, Value.ref (ad 163)), (4, vI p5), (5, vI x1)]) dL_acts_475 (by decide) rfl ?_
      refine a_bipush (pc := 477) a dL_acts_477 (by decide) ?_
      refine a_iload (pc := 479) a 1 dL_acts_479 rfl ?_
      refine a_imul (pc := 481) a dL_acts_481 ?_
      refine a_iconst (pc := 482) a dL_acts_482 ?_
      refine a_iadd (pc := 483) a dL_acts_483 ?_
      refine a_nm (fun x69 hx => ?_)
      replace h := h x69 hx
      clear hx
      refine a_istore (pc := 484) a (ls1 := [(14, vI x69), (13, vI x68), (7, vI x4), (6, vI x3), (0, Value.ref (ad 0)), (1, Value.ref (ad 161)), (2, Value.ref (ad 162)), (3, Value.ref (ad 163)), (4, vI p5), (5, vI x1)]) dL_acts_484 (by decide) rfl ?_
      refine a_iconst (pc := 486) a dL_acts_486 ?_
      refine a_istore (pc := 487) a (ls1 := [(15, vI 0), (14, vI x69), (13, vI x68), (7, vI x4), (6, vI x3), (0, Value.ref (ad 0)), (1, Value.ref (ad 161)), (2, Value.ref (ad 162)), (3, Value.ref (ad 163)), (4, vI p5), (5, vI x1)]) dL_acts_487 (by decide) rfl ?_
      refine a_iconst (pc := 489) a dL_acts_489 ?_
      refine a_istore (pc := 490) a (ls1 := [(16, vI 0), (15, vI 0), (14, vI x69), (13, vI x68), (7, vI x4), (6, vI x3), (0, Value.ref (ad 0)), (1, Value.ref (ad 161)), (2, Value.ref (ad 162)), (3, Value.ref (ad 163)), (4, vI p5), (5, vI x1)]) dL_acts_490 (by decide) rfl ?_
      refine a_iconst (pc := 492) a dL_acts_492 ?_
      refine a_istore (pc := 493) a (ls1 := [(17, vI 0), (16, vI 0), (15, vI 0), (14, vI x69), (13, vI x68), (7, vI x4), (6, vI x3), (0, Value.ref (ad 0)), (1, Value.ref (ad 161)), (2, Value.ref (ad 162)), (3, Value.ref (ad 163)), (4, vI p5), (5, vI x1)]) dL_acts_493 (by decide) rfl ?_
      refine a_sub (ls1 := [(0, Value.ref (ad 0)), (2, Value.ref (ad 162)), (7, vI x4), (13, vI x68), (14, vI x69), (15, vI 0), (16, vI 0), (17, vI 0)]) [7, 9, 5, 4, 3, 2, 1, 0] rfl ?_
      refine g_wl3 (fun x70 x71 x72 => [(0, Value.ref (ad 0)), (2, Value.ref (ad 162)), (7, vI x4), (13, vI x68), (14, vI x69), (15, vI x70), (16, vI x71), (17, vI x72)]) h ?_
      clear h
      intro x70 x71 x72 ag495 hag495 h
      refine a_iload (pc := 495) a 7 dL_acts_495 rfl ?_
      refine a_aload_n (pc := 497) a 1 dL_acts_497 rfl rfl ?_
      refine a_iload (pc := 498) a 4 dL_acts_498 rfl ?_
      refine a_iald (pc := 500) a (tw hinj w3) (by decide) h.1 dL_acts_500 ?_
      replace h := h.2
      refine a_icmp_ge (pc := 501) a h.1 h.2.1 dL_acts_501 (tgt := 560) (by decide) (fun hq => ?_) (fun hq => ?_)
      · replace h := h.2.2.1 hq
        clear hq
        refine a_iload (pc := 560) a 6 dL_acts_560 rfl ?_
        refine g_wj0 592 0 0 [(0, Value.ref (ad 0)), (2, Value.ref (ad 162)), (7, vI x4), (13, vI x68), (14, vI x69), (15, vI x70), (16, vI x71)] [] h ?_ ?_
        · clear h
          intro  h
          refine a_iload (pc := 592) a 5 dL_acts_592 rfl ?_
          refine a_istore (pc := 594) a (ls1 := [(17, vI x70), (0, Value.ref (ad 0)), (2, Value.ref (ad 162)), (7, vI x4), (13, vI x68), (14, vI x69), (15, vI x70), (16, vI x71)]) dL_acts_594 (by decide) rfl ?_
          refine a_sub (ls1 := [(0, Value.ref (ad 0)), (2, Value.ref (ad 162)), (7, vI x4), (13, vI x68), (14, vI x69), (15, vI x70), (16, vI x71), (17, vI x70)]) [1, 2, 3, 4, 5, 6, 7, 0] rfl ?_
          refine g_wl1s (fun x76 => [(0, Value.ref (ad 0)), (2, Value.ref (ad 162)), (7, vI x4), (13, vI x68), (14, vI x69), (15, vI x70), (16, vI x71), (17, vI x76)]) h ?_
          clear h
          intro x76 s77 ag596 hag596 h
          refine a_iload (pc := 596) a 7 dL_acts_596 rfl ?_
          refine a_iconst (pc := 598) a dL_acts_598 ?_
          refine g_wj0 641 0 0 [(0, Value.ref (ad 0)), (2, Value.ref (ad 162)), (7, vI x4), (13, vI x68), (14, vI x69), (15, vI x70), (16, vI x71)] [] h ?_ ?_
          · clear h
            intro  h
            refine a_iconst (pc := 641) a dL_acts_641 ?_
            refine a_istore (pc := 642) a (ls1 := [(17, vI 4), (0, Value.ref (ad 0)), (2, Value.ref (ad 162)), (7, vI x4), (13, vI x68), (14, vI x69), (15, vI x70), (16, vI x71)]) dL_acts_642 (by decide) rfl ?_
            refine a_sub (ls1 := [(0, Value.ref (ad 0)), (2, Value.ref (ad 162)), (7, vI x4), (13, vI x68), (14, vI x69), (15, vI x70), (16, vI x71), (17, vI 4)]) [1, 2, 3, 4, 5, 6, 7, 0] rfl ?_
            refine g_wl1s (fun x81 => [(0, Value.ref (ad 0)), (2, Value.ref (ad 162)), (7, vI x4), (13, vI x68), (14, vI x69), (15, vI x70), (16, vI x71), (17, vI x81)]) h ?_
            clear h
            intro x81 s82 ag644 hag644 h
            refine a_iload (pc := 644) a 7 dL_acts_644 rfl ?_
            refine a_iload (pc := 646) a 5 dL_acts_646 rfl ?_
            refine g_wj0 690 0 0 [(0, Value.ref (ad 0)), (2, Value.ref (ad 162)), (7, vI x4), (13, vI x68), (14, vI x69), (16, vI x71)] [] h ?_ ?_
            · clear h
              intro  h
              refine a_aload_n (pc := 690) a 1 dL_acts_690 rfl rfl ?_
              refine a_iload (pc := 691) a 4 dL_acts_691 rfl ?_
              refine a_dup2 (pc := 693) a rfl rfl dL_acts_693 ?_
              refine a_iald (pc := 694) a (tw hinj w3) (by decide) h.1 dL_acts_694 ?_
              replace h := h.2
              refine a_iload (pc := 695) a 5 dL_acts_695 rfl ?_
              refine g_wj1 705 0 0 (fun x87 => [(0, Value.ref (ad 0)), (2, Value.ref (ad 162)), (7, vI x4), (13, vI x68), (14, vI x69)]) (fun x87 => [vI x87, vI (s82 162 x69), vI x69, Value.ref (ad 162)]) h ?_ ?_
              · clear h
                intro x87 h
                refine a_iadd (pc := 705) a dL_acts_705 ?_
                refine a_iast (pc := 706) a (tw hinj w3) (by decide) h.1 dL_acts_706 ?_
                replace h := h.2
                refine a_nmS (fun s88 hx => ?_)
                replace h := h s88 hx
                clear hx
                refine a_aload_n (pc := 707) a 0 dL_acts_707 rfl rfl ?_
                refine a_iload (pc := 708) a 2 dL_acts_708 rfl ?_
                refine a_iload (pc := 710) a 3 dL_acts_710 rfl ?_
                refine a_cwi (pc := 712) a (As := [Value.ref (ad 0), vI x4, vI x68]) (rest := []) (fun sz => c_L_limits hinj hl0  h sz) (vx_cwSW 3 hts (gl_S (GL_22 _ (by decide +kernel)) (GL_22 _ (by decide +kernel)) (GL_4 _ (by decide +kernel)) (GL_22 _ (by decide +kernel))) rfl rfl rfl (by decide +kernel) ⟨Nat.le_of_ble_eq_true rfl, Nat.le_of_ble_eq_true rfl⟩) rfl rfl (Nat.le_of_ble_eq_true rfl) ⟨Nat.le_of_ble_eq_true rfl, Nat.le_of_ble_eq_true rfl⟩ dL_acts_712 ?_
                clear h
                intro x89 s90 h
                refine a_aload_n (pc := 715) a 1 dL_acts_715 rfl rfl ?_
                refine a_iload (pc := 716) a 4 dL_acts_716 rfl ?_
                refine a_iald (pc := 718) a (tw hinj w3) (by decide) h.1 dL_acts_718 ?_
                replace h := h.2
                refine a_icmp_ne (pc := 719) a h.1 h.2.1 dL_acts_719 (tgt := 726) (by decide) (fun hq => ?_) (fun hq => ?_)
                · replace h := h.2.2.1 hq
                  clear hq
                  refine a_iconst (pc := 726) a dL_acts_726 ?_
                  refine a_wid 6 36 (by omega) (by omega) ?_
                  exact e_z (pc := 727) a hr (by decide) dL_acts_727 h
                · replace h := h.2.2.2 hq
                  clear hq
                  refine a_iconst (pc := 722) a dL_acts_722 ?_
                  refine a_goto (pc := 723) a dL_acts_723 (tgt := 727) (by decide) ?_
                  refine a_wid 6 36 (by omega) (by omega) ?_
                  exact e_z (pc := 727) a hr (by decide) dL_acts_727 h
              · clear h
                intro jj705 hjj705 h
                refine a_if_eq (pc := 697) a h.1 dL_acts_697 (tgt := 704) (by decide) (fun hq => ?_) (fun hq => ?_)
                · replace h := h.2.1 hq
                  clear hq
                  refine a_iconst (pc := 704) a dL_acts_704 ?_
                  refine a_sub (ls1 := [(0, Value.ref (ad 0)), (2, Value.ref (ad 162)), (7, vI x4), (13, vI x68), (14, vI x69)]) [0, 1, 2, 3, 4] rfl ?_
                  exact hjj705 1 h
                · replace h := h.2.2 hq
                  clear hq
                  refine a_iconst (pc := 700) a dL_acts_700 ?_
                  refine a_goto (pc := 701) a dL_acts_701 (tgt := 705) (by decide) ?_
                  refine a_sub (ls1 := [(0, Value.ref (ad 0)), (2, Value.ref (ad 162)), (7, vI x4), (13, vI x68), (14, vI x69)]) [0, 1, 2, 3, 4] rfl ?_
                  exact hjj705 (-1) h
            · clear h
              intro jj690 hjj690 h
              refine a_icmp_lt (pc := 648) a h.1 h.2.1 dL_acts_648 (tgt := 690) (by decide) (fun hq => ?_) (fun hq => ?_)
              · replace h := h.2.2.1 hq
                clear hq
                refine a_sub (ls1 := [(0, Value.ref (ad 0)), (2, Value.ref (ad 162)), (7, vI x4), (13, vI x68), (14, vI x69), (16, vI x71)]) [0, 1, 2, 3, 4, 6] rfl ?_
                exact hjj690  h
              · replace h := h.2.2.2 hq
                clear hq
                refine a_iload (pc := 651) a 6 dL_acts_651 rfl ?_
                refine a_if_ne (pc := 653) a h.1 dL_acts_653 (tgt := 690) (by decide) (fun hq => ?_) (fun hq => ?_)
                · replace h := h.2.1 hq
                  clear hq
                  refine a_sub (ls1 := [(0, Value.ref (ad 0)), (2, Value.ref (ad 162)), (7, vI x4), (13, vI x68), (14, vI x69), (16, vI x71)]) [0, 1, 2, 3, 4, 6] rfl ?_
                  exact hjj690  h
                · replace h := h.2.2 hq
                  clear hq
                  refine a_aload_n (pc := 656) a 1 dL_acts_656 rfl rfl ?_
                  refine a_iload (pc := 657) a 4 dL_acts_657 rfl ?_
                  refine a_iconst (pc := 659) a dL_acts_659 ?_
                  refine a_iadd (pc := 660) a dL_acts_660 ?_
                  refine a_iload (pc := 661) a 7 dL_acts_661 rfl ?_
                  refine a_iadd (pc := 663) a dL_acts_663 ?_
                  refine a_iload (pc := 664) a 7 dL_acts_664 rfl ?_
                  refine a_iload (pc := 666) a 5 dL_acts_666 rfl ?_
                  refine a_icmp_ne (pc := 668) a h.1 h.2.1 dL_acts_668 (tgt := 676) (by decide) (fun hq => ?_) (fun hq => ?_)
                  · replace h := h.2.2.1 hq
                    clear hq
                    refine a_aload_n (pc := 676) a 1 dL_acts_676 rfl rfl ?_
                    refine a_iload (pc := 677) a 4 dL_acts_677 rfl ?_
                    refine a_iload (pc := 679) a 7 dL_acts_679 rfl ?_
                    refine a_iadd (pc := 681) a dL_acts_681 ?_
                    refine a_iald (pc := 682) a (tw hinj w3) (by decide) h.1 dL_acts_682 ?_
                    replace h := h.2
                    refine a_iast (pc := 683) a (tw hinj w3) (by decide) h.1 dL_acts_683 ?_
                    replace h := h.2
                    refine a_nmS (fun s84 hx => ?_)
                    replace h := h s84 hx
                    clear hx
                    refine a_iinc (pc := 684) a (ls1 := [(17, vI (x81 + (-1))), (0, Value.ref (ad 0)), (2, Value.ref (ad 162)), (7, vI x4), (13, vI x68), (14, vI x69), (15, vI x70), (16, vI x71)]) 7 dL_acts_684 rfl (by decide) rfl ?_
                    refine a_goto (pc := 687) a dL_acts_687 (tgt := 644) (by decide) ?_
                    refine a_sub (ls1 := [(0, Value.ref (ad 0)), (2, Value.ref (ad 162)), (7, vI x4), (13, vI x68), (14, vI x69), (15, vI x70), (16, vI x71), (17, vI (x81 + (-1)))]) [1, 2, 3, 4, 5, 6, 7, 0] rfl ?_
                    exact hag644 (x81 + (-1)) s84 h
                  · replace h := h.2.2.2 hq
                    clear hq
                    refine a_iload (pc := 671) a 3 dL_acts_671 rfl ?_
                    refine a_goto (pc := 673) a dL_acts_673 (tgt := 683) (by decide) ?_
                    refine a_iast (pc := 683) a (tw hinj w3) (by decide) h.1 dL_acts_683 ?_
                    replace h := h.2
                    refine a_nmS (fun s85 hx => ?_)
                    replace h := h s85 hx
                    clear hx
                    refine a_iinc (pc := 684) a (ls1 := [(17, vI (x81 + (-1))), (0, Value.ref (ad 0)), (2, Value.ref (ad 162)), (7, vI x4), (13, vI x68), (14, vI x69), (15, vI x70), (16, vI x71)]) 7 dL_acts_684 rfl (by decide) rfl ?_
                    refine a_goto (pc := 687) a dL_acts_687 (tgt := 644) (by decide) ?_
                    refine a_sub (ls1 := [(0, Value.ref (ad 0)), (2, Value.ref (ad 162)), (7, vI x4), (13, vI x68), (14, vI x69), (15, vI x70), (16, vI x71), (17, vI (x81 + (-1)))]) [1, 2, 3, 4, 5, 6, 7, 0] rfl ?_
                    exact hag644 (x81 + (-1)) s85 h
          · clear h
            intro jj641 hjj641 h
            refine a_icmp_ge (pc := 599) a h.1 ⟨by decide, by decide⟩ dL_acts_599 (tgt := 641) (by decide) (fun hq => ?_) (fun hq => ?_)
            · replace h := h.2.1 hq
              clear hq
              refine a_sub (ls1 := [(0, Value.ref (ad 0)), (2, Value.ref (ad 162)), (7, vI x4), (13, vI x68), (14, vI x69), (15, vI x70), (16, vI x71)]) [0, 1, 2, 3, 4, 5, 6] rfl ?_
              exact hjj641  h
            · replace h := h.2.2 hq
              clear hq
              refine a_iload (pc := 602) a 6 dL_acts_602 rfl ?_
              refine a_if_eq (pc := 604) a h.1 dL_acts_604 (tgt := 641) (by decide) (fun hq => ?_) (fun hq => ?_)
              · replace h := h.2.1 hq
                clear hq
                refine a_sub (ls1 := [(0, Value.ref (ad 0)), (2, Value.ref (ad 162)), (7, vI x4), (13, vI x68), (14, vI x69), (15, vI x70), (16, vI x71)]) [0, 1, 2, 3, 4, 5, 6] rfl ?_
                exact hjj641  h
              · replace h := h.2.2 hq
                clear hq
                refine a_aload_n (pc := 607) a 1 dL_acts_607 rfl rfl ?_
                refine a_iload (pc := 608) a 4 dL_acts_608 rfl ?_
                refine a_iconst (pc := 610) a dL_acts_610 ?_
                refine a_iadd (pc := 611) a dL_acts_611 ?_
                refine a_iload (pc := 612) a 7 dL_acts_612 rfl ?_
                refine a_iadd (pc := 614) a dL_acts_614 ?_
                refine a_iload (pc := 615) a 7 dL_acts_615 rfl ?_
                refine a_iconst (pc := 617) a dL_acts_617 ?_
                refine a_icmp_ge (pc := 618) a h.1 ⟨by decide, by decide⟩ dL_acts_618 (tgt := 633) (by decide) (fun hq => ?_) (fun hq => ?_)
                · replace h := h.2.1 hq
                  clear hq
                  refine a_iconst (pc := 633) a dL_acts_633 ?_
                  refine a_iast (pc := 634) a (tw hinj w3) (by decide) h.1 dL_acts_634 ?_
                  replace h := h.2
                  refine a_nmS (fun s79 hx => ?_)
                  replace h := h s79 hx
                  clear hx
                  refine a_iinc (pc := 635) a (ls1 := [(17, vI (x76 + 1)), (0, Value.ref (ad 0)), (2, Value.ref (ad 162)), (7, vI x4), (13, vI x68), (14, vI x69), (15, vI x70), (16, vI x71)]) 7 dL_acts_635 rfl (by decide) rfl ?_
                  refine a_goto (pc := 638) a dL_acts_638 (tgt := 596) (by decide) ?_
                  refine a_sub (ls1 := [(0, Value.ref (ad 0)), (2, Value.ref (ad 162)), (7, vI x4), (13, vI x68), (14, vI x69), (15, vI x70), (16, vI x71), (17, vI (x76 + 1))]) [1, 2, 3, 4, 5, 6, 7, 0] rfl ?_
                  exact hag596 (x76 + 1) s79 h
                · replace h := h.2.2 hq
                  clear hq
                  refine a_aload_n (pc := 621) a 1 dL_acts_621 rfl rfl ?_
                  refine a_iload (pc := 622) a 4 dL_acts_622 rfl ?_
                  refine a_iconst (pc := 624) a dL_acts_624 ?_
                  refine a_iadd (pc := 625) a dL_acts_625 ?_
                  refine a_iload (pc := 626) a 7 dL_acts_626 rfl ?_
                  refine a_iadd (pc := 628) a dL_acts_628 ?_
                  refine a_iald (pc := 629) a (tw hinj w3) (by decide) h.1 dL_acts_629 ?_
                  replace h := h.2
                  refine a_goto (pc := 630) a dL_acts_630 (tgt := 634) (by decide) ?_
                  refine a_iast (pc := 634) a (tw hinj w3) (by decide) h.1 dL_acts_634 ?_
                  replace h := h.2
                  refine a_nmS (fun s80 hx => ?_)
                  replace h := h s80 hx
                  clear hx
                  refine a_iinc (pc := 635) a (ls1 := [(17, vI (x76 + 1)), (0, Value.ref (ad 0)), (2, Value.ref (ad 162)), (7, vI x4), (13, vI x68), (14, vI x69), (15, vI x70), (16, vI x71)]) 7 dL_acts_635 rfl (by decide) rfl ?_
                  refine a_goto (pc := 638) a dL_acts_638 (tgt := 596) (by decide) ?_
                  refine a_sub (ls1 := [(0, Value.ref (ad 0)), (2, Value.ref (ad 162)), (7, vI x4), (13, vI x68), (14, vI x69), (15, vI x70), (16, vI x71), (17, vI (x76 + 1))]) [1, 2, 3, 4, 5, 6, 7, 0] rfl ?_
                  exact hag596 (x76 + 1) s80 h
        · clear h
          intro jj592 hjj592 h
          refine a_if_ne (pc := 562) a h.1 dL_acts_562 (tgt := 592) (by decide) (fun hq => ?_) (fun hq => ?_)
          · replace h := h.2.1 hq
            clear hq
            refine a_sub (ls1 := [(0, Value.ref (ad 0)), (2, Value.ref (ad 162)), (7, vI x4), (13, vI x68), (14, vI x69), (15, vI x70), (16, vI x71)]) [0, 1, 2, 3, 4, 5, 6] rfl ?_
            refine a_wid 0 0 (by omega) (by omega) ?_
            exact hjj592  h
          · replace h := h.2.2 hq
            clear hq
            refine a_aload_n (pc := 565) a 1 dL_acts_565 rfl rfl ?_
            refine a_iload (pc := 566) a 4 dL_acts_566 rfl ?_
            refine a_iald (pc := 568) a (tw hinj w3) (by decide) h.1 dL_acts_568 ?_
            replace h := h.2
            refine a_iconst (pc := 569) a dL_acts_569 ?_
            refine a_icmp_ne (pc := 570) a h.1 ⟨by decide, by decide⟩ dL_acts_570 (tgt := 592) (by decide) (fun hq => ?_) (fun hq => ?_)
            · replace h := h.2.1 hq
              clear hq
              refine a_sub (ls1 := [(0, Value.ref (ad 0)), (2, Value.ref (ad 162)), (7, vI x4), (13, vI x68), (14, vI x69), (15, vI x70), (16, vI x71)]) [0, 1, 2, 3, 4, 5, 6] rfl ?_
              refine a_wid 0 0 (by omega) (by omega) ?_
              exact hjj592  h
            · replace h := h.2.2 hq
              clear hq
              refine a_aload_n (pc := 573) a 0 dL_acts_573 rfl rfl ?_
              refine a_iload (pc := 574) a 2 dL_acts_574 rfl ?_
              refine a_iload (pc := 576) a 3 dL_acts_576 rfl ?_
              refine a_cwi (pc := 578) a (As := [Value.ref (ad 0), vI x4, vI x68]) (rest := []) (fun sz => c_L_limits hinj hl0  h sz) (vx_cwSW 3 hts (gl_S (GL_22 _ (by decide +kernel)) (GL_22 _ (by decide +kernel)) (GL_4 _ (by decide +kernel)) (GL_22 _ (by decide +kernel))) rfl rfl rfl (by decide +kernel) ⟨Nat.le_of_ble_eq_true rfl, Nat.le_of_ble_eq_true rfl⟩) rfl rfl (Nat.le_of_ble_eq_true rfl) ⟨Nat.le_of_ble_eq_true rfl, Nat.le_of_ble_eq_true rfl⟩ dL_acts_578 ?_
              clear h
              intro x74 s75 h
              refine a_ldc (pc := 581) a (n := (-100003)) w6 dL_acts_581 ?_
              refine a_icmp_ne (pc := 583) a h.1 ⟨by decide, by decide⟩ dL_acts_583 (tgt := 590) (by decide) (fun hq => ?_) (fun hq => ?_)
              · replace h := h.2.1 hq
                clear hq
                refine a_iconst (pc := 590) a dL_acts_590 ?_
                refine a_wid 6 36 (by omega) (by omega) ?_
                exact e_z (pc := 591) a hr (by decide) dL_acts_591 h
              · replace h := h.2.2 hq
                clear hq
                refine a_iconst (pc := 586) a dL_acts_586 ?_
                refine a_goto (pc := 587) a dL_acts_587 (tgt := 591) (by decide) ?_
                refine a_wid 6 36 (by omega) (by omega) ?_
                exact e_z (pc := 591) a hr (by decide) dL_acts_591 h
      · replace h := h.2.2.2 hq
        clear hq
        refine a_iload (pc := 504) a 5 dL_acts_504 rfl ?_
        refine a_aload_n (pc := 506) a 1 dL_acts_506 rfl rfl ?_
        refine a_iload (pc := 507) a 4 dL_acts_507 rfl ?_
        refine a_iconst (pc := 509) a dL_acts_509 ?_
        refine a_iadd (pc := 510) a dL_acts_510 ?_
        refine a_iload (pc := 511) a 7 dL_acts_511 rfl ?_
        refine a_iadd (pc := 513) a dL_acts_513 ?_
        refine a_iald (pc := 514) a (tw hinj w3) (by decide) h.1 dL_acts_514 ?_
        replace h := h.2
        refine a_iload (pc := 515) a 3 dL_acts_515 rfl ?_
        refine g_wj1 525 0 0 (fun x92 => [(0, Value.ref (ad 0)), (2, Value.ref (ad 162)), (7, vI x4), (13, vI x68), (14, vI x69), (16, vI x71), (17, vI x72)]) (fun x92 => [vI x92, vI x70]) h ?_ ?_
        · clear h
          intro x92 h
          refine a_iadd (pc := 525) a dL_acts_525 ?_
          refine a_nm (fun x93 hx => ?_)
          replace h := h x93 hx
          clear hx
          refine a_istore (pc := 526) a (ls1 := [(15, vI x93), (0, Value.ref (ad 0)), (2, Value.ref (ad 162)), (7, vI x4), (13, vI x68), (14, vI x69), (16, vI x71), (17, vI x72)]) dL_acts_526 (by decide) rfl ?_
          refine a_iload (pc := 528) a 6 dL_acts_528 rfl ?_
          refine a_if_ne (pc := 530) a h.1 dL_acts_530 (tgt := 547) (by decide) (fun hq => ?_) (fun hq => ?_)
          · replace h := h.2.1 hq
            clear hq
            refine a_iconst (pc := 547) a dL_acts_547 ?_
            refine a_goto (pc := 548) a dL_acts_548 (tgt := 552) (by decide) ?_
            refine a_istore (pc := 552) a (ls1 := [(16, vI 1), (15, vI x93), (0, Value.ref (ad 0)), (2, Value.ref (ad 162)), (7, vI x4), (13, vI x68), (14, vI x69), (17, vI x72)]) dL_acts_552 (by decide) rfl ?_
            refine a_iinc (pc := 554) a (ls1 := [(17, vI (x72 + 1)), (16, vI 1), (15, vI x93), (0, Value.ref (ad 0)), (2, Value.ref (ad 162)), (7, vI x4), (13, vI x68), (14, vI x69)]) 7 dL_acts_554 rfl (by decide) rfl ?_
            refine a_goto (pc := 557) a dL_acts_557 (tgt := 495) (by decide) ?_
            refine a_sub (ls1 := [(0, Value.ref (ad 0)), (2, Value.ref (ad 162)), (7, vI x4), (13, vI x68), (14, vI x69), (15, vI x93), (16, vI 1), (17, vI (x72 + 1))]) [3, 4, 5, 6, 7, 2, 1, 0] rfl ?_
            exact hag495 x93 1 (x72 + 1) h
          · replace h := h.2.2 hq
            clear hq
            refine a_aload_n (pc := 533) a 2 dL_acts_533 rfl rfl ?_
            refine a_iload (pc := 534) a 5 dL_acts_534 rfl ?_
            refine a_iconst (pc := 536) a dL_acts_536 ?_
            refine a_iadd (pc := 537) a dL_acts_537 ?_
            refine a_iload (pc := 538) a 7 dL_acts_538 rfl ?_
            refine a_iadd (pc := 540) a dL_acts_540 ?_
            refine a_iald (pc := 541) a (tw hinj w3) (by decide) h.1 dL_acts_541 ?_
            replace h := h.2
            refine a_iload (pc := 542) a 4 dL_acts_542 rfl ?_
            refine a_icmp_ne (pc := 544) a h.1 h.2.1 dL_acts_544 (tgt := 551) (by decide) (fun hq => ?_) (fun hq => ?_)
            · replace h := h.2.2.1 hq
              clear hq
              refine a_iconst (pc := 551) a dL_acts_551 ?_
              refine a_istore (pc := 552) a (ls1 := [(16, vI 0), (15, vI x93), (0, Value.ref (ad 0)), (2, Value.ref (ad 162)), (7, vI x4), (13, vI x68), (14, vI x69), (17, vI x72)]) dL_acts_552 (by decide) rfl ?_
              refine a_iinc (pc := 554) a (ls1 := [(17, vI (x72 + 1)), (16, vI 0), (15, vI x93), (0, Value.ref (ad 0)), (2, Value.ref (ad 162)), (7, vI x4), (13, vI x68), (14, vI x69)]) 7 dL_acts_554 rfl (by decide) rfl ?_
              refine a_goto (pc := 557) a dL_acts_557 (tgt := 495) (by decide) ?_
              refine a_sub (ls1 := [(0, Value.ref (ad 0)), (2, Value.ref (ad 162)), (7, vI x4), (13, vI x68), (14, vI x69), (15, vI x93), (16, vI 0), (17, vI (x72 + 1))]) [3, 4, 5, 6, 7, 2, 1, 0] rfl ?_
              exact hag495 x93 0 (x72 + 1) h
            · replace h := h.2.2.2 hq
              clear hq
              refine a_iconst (pc := 547) a dL_acts_547 ?_
              refine a_goto (pc := 548) a dL_acts_548 (tgt := 552) (by decide) ?_
              refine a_istore (pc := 552) a (ls1 := [(16, vI 1), (15, vI x93), (0, Value.ref (ad 0)), (2, Value.ref (ad 162)), (7, vI x4), (13, vI x68), (14, vI x69), (17, vI x72)]) dL_acts_552 (by decide) rfl ?_
              refine a_iinc (pc := 554) a (ls1 := [(17, vI (x72 + 1)), (16, vI 1), (15, vI x93), (0, Value.ref (ad 0)), (2, Value.ref (ad 162)), (7, vI x4), (13, vI x68), (14, vI x69)]) 7 dL_acts_554 rfl (by decide) rfl ?_
              refine a_goto (pc := 557) a dL_acts_557 (tgt := 495) (by decide) ?_
              refine a_sub (ls1 := [(0, Value.ref (ad 0)), (2, Value.ref (ad 162)), (7, vI x4), (13, vI x68), (14, vI x69), (15, vI x93), (16, vI 1), (17, vI (x72 + 1))]) [3, 4, 5, 6, 7, 2, 1, 0] rfl ?_
              exact hag495 x93 1 (x72 + 1) h
        · clear h
          intro jj525 hjj525 h
          refine a_icmp_ge (pc := 517) a h.1 h.2.1 dL_acts_517 (tgt := 524) (by decide) (fun hq => ?_) (fun hq => ?_)
          · replace h := h.2.2.1 hq
            clear hq
            refine a_iconst (pc := 524) a dL_acts_524 ?_
            refine a_sub (ls1 := [(0, Value.ref (ad 0)), (2, Value.ref (ad 162)), (7, vI x4), (13, vI x68), (14, vI x69), (16, vI x71), (17, vI x72)]) [0, 1, 2, 3, 4, 6, 7] rfl ?_
            refine a_wid 0 0 (by omega) (by omega) ?_
            exact hjj525 0 h
          · replace h := h.2.2.2 hq
            clear hq
            refine a_iconst (pc := 520) a dL_acts_520 ?_
            refine a_goto (pc := 521) a dL_acts_521 (tgt := 525) (by decide) ?_
            refine a_sub (ls1 := [(0, Value.ref (ad 0)), (2, Value.ref (ad 162)), (7, vI x4), (13, vI x68), (14, vI x69), (16, vI x71), (17, vI x72)]) [0, 1, 2, 3, 4, 6, 7] rfl ?_
            refine a_wid 0 0 (by omega) (by omega) ?_
            exact hjj525 1 h
    · replace h := h.2.2.2.2.2.2.2.2.2.1 hq
      refine a_tsIn (pc := 44) a 8 hq ⟨by decide, by decide⟩ dL_acts_44 (by decide) (by decide) rfl (tgt := 463) (by decide) ?_
      clear hq
      refine a_iconst (pc := 463) a dL_acts_463 ?_
      refine a_iload (pc := 464) a 7 dL_acts_464 rfl ?_
      refine a_iconst (pc := 466) a dL_acts_466 ?_
      refine a_idiv (pc := 467) a dL_acts_467 h.1 (by decide) ?_
      replace h := h.2
      refine a_bipush (pc := 468) a dL_acts_468 (by decide) ?_
      refine a_irem (pc := 470) a dL_acts_470 h.1 (by decide) ?_
      replace h := h.2
      refine a_bipush (pc := 471) a dL_acts_471 (by decide) ?_
      refine a_imul (pc := 473) a dL_acts_473 ?_
      refine a_iadd (pc := 474) a dL_acts_474 ?_
      refine a_nm (fun x94 hx => ?_)
      replace h := h x94 hx
      clear hx
      refine a_istore (pc := 475) a (ls1 := [(13, vI x94), (7, vI x4), (6, vI x3), (0, Value.ref (ad 0)), (1, Value.ref (ad 161)), (2, Value.ref (ad 162)), (3, Value.ref (ad 163)), (4, vI p5), (5, vI x1)]) dL_acts_475 (by decide) rfl ?_
      refine a_bipush (pc := 477) a dL_acts_477 (by decide) ?_
      refine a_iload (pc := 479) a 1 dL_acts_479 rfl ?_
      refine a_imul (pc := 481) a dL_acts_481 ?_
      refine a_iconst (pc := 482) a dL_acts_482 ?_
      refine a_iadd (pc := 483) a dL_acts_483 ?_
      refine a_nm (fun x95 hx => ?_)
      replace h := h x95 hx
      clear hx
      refine a_istore (pc := 484) a (ls1 := [(14, vI x95), (13, vI x94), (7, vI x4), (6, vI x3), (0, Value.ref (ad 0)), (1, Value.ref (ad 161)), (2, Value.ref (ad 162)), (3, Value.ref (ad 163)), (4, vI p5), (5, vI x1)]) dL_acts_484 (by decide) rfl ?_
      refine a_iconst (pc := 486) a dL_acts_486 ?_
      refine a_istore (pc := 487) a (ls1 := [(15, vI 0), (14, vI x95), (13, vI x94), (7, vI x4), (6, vI x3), (0, Value.ref (ad 0)), (1, Value.ref (ad 161)), (2, Value.ref (ad 162)), (3, Value.ref (ad 163)), (4, vI p5), (5, vI x1)]) dL_acts_487 (by decide) rfl ?_
      refine a_iconst (pc := 489) a dL_acts_489 ?_
      refine a_istore (pc := 490) a (ls1 := [(16, vI 0), (15, vI 0), (14, vI x95), (13, vI x94), (7, vI x4), (6, vI x3), (0, Value.ref (ad 0)), (1, Value.ref (ad 161)), (2, Value.ref (ad 162)), (3, Value.ref (ad 163)), (4, vI p5), (5, vI x1)]) dL_acts_490 (by decide) rfl ?_
      refine a_iconst (pc := 492) a dL_acts_492 ?_
      refine a_istore (pc := 493) a (ls1 := [(17, vI 0), (16, vI 0), (15, vI 0), (14, vI x95), (13, vI x94), (7, vI x4), (6, vI x3), (0, Value.ref (ad 0)), (1, Value.ref (ad 161)), (2, Value.ref (ad 162)), (3, Value.ref (ad 163)), (4, vI p5), (5, vI x1)]) dL_acts_493 (by decide) rfl ?_
      refine a_sub (ls1 := [(0, Value.ref (ad 0)), (2, Value.ref (ad 162)), (7, vI x4), (13, vI x94), (14, vI x95), (15, vI 0), (16, vI 0), (17, vI 0)]) [7, 9, 5, 4, 3, 2, 1, 0] rfl ?_
      refine g_wl3 (fun x96 x97 x98 => [(0, Value.ref (ad 0)), (2, Value.ref (ad 162)), (7, vI x4), (13, vI x94), (14, vI x95), (15, vI x96), (16, vI x97), (17, vI x98)]) h ?_
      clear h
      intro x96 x97 x98 ag495 hag495 h
      refine a_iload (pc := 495) a 7 dL_acts_495 rfl ?_
      refine a_aload_n (pc := 497) a 1 dL_acts_497 rfl rfl ?_
      refine a_iload (pc := 498) a 4 dL_acts_498 rfl ?_
      refine a_iald (pc := 500) a (tw hinj w3) (by decide) h.1 dL_acts_500 ?_
      replace h := h.2
      refine a_icmp_ge (pc := 501) a h.1 h.2.1 dL_acts_501 (tgt := 560) (by decide) (fun hq => ?_) (fun hq => ?_)
      · replace h := h.2.2.1 hq
        clear hq
        refine a_iload (pc := 560) a 6 dL_acts_560 rfl ?_
        refine g_wj0 592 0 0 [(0, Value.ref (ad 0)), (2, Value.ref (ad 162)), (7, vI x4), (13, vI x94), (14, vI x95), (15, vI x96), (16, vI x97)] [] h ?_ ?_
        · clear h
          intro  h
          refine a_iload (pc := 592) a 5 dL_acts_592 rfl ?_
          refine a_istore (pc := 594) a (ls1 := [(17, vI x96), (0, Value.ref (ad 0)), (2, Value.ref (ad 162)), (7, vI x4), (13, vI x94), (14, vI x95), (15, vI x96), (16, vI x97)]) dL_acts_594 (by decide) rfl ?_
          refine a_sub (ls1 := [(0, Value.ref (ad 0)), (2, Value.ref (ad 162)), (7, vI x4), (13, vI x94), (14, vI x95), (15, vI x96), (16, vI x97), (17, vI x96)]) [1, 2, 3, 4, 5, 6, 7, 0] rfl ?_
          refine g_wl1s (fun x102 => [(0, Value.ref (ad 0)), (2, Value.ref (ad 162)), (7, vI x4), (13, vI x94), (14, vI x95), (15, vI x96), (16, vI x97), (17, vI x102)]) h ?_
          clear h
          intro x102 s103 ag596 hag596 h
          refine a_iload (pc := 596) a 7 dL_acts_596 rfl ?_
          refine a_iconst (pc := 598) a dL_acts_598 ?_
          refine g_wj0 641 0 0 [(0, Value.ref (ad 0)), (2, Value.ref (ad 162)), (7, vI x4), (13, vI x94), (14, vI x95), (15, vI x96), (16, vI x97)] [] h ?_ ?_
          · clear h
            intro  h
            refine a_iconst (pc := 641) a dL_acts_641 ?_
            refine a_istore (pc := 642) a (ls1 := [(17, vI 4), (0, Value.ref (ad 0)), (2, Value.ref (ad 162)), (7, vI x4), (13, vI x94), (14, vI x95), (15, vI x96), (16, vI x97)]) dL_acts_642 (by decide) rfl ?_
            refine a_sub (ls1 := [(0, Value.ref (ad 0)), (2, Value.ref (ad 162)), (7, vI x4), (13, vI x94), (14, vI x95), (15, vI x96), (16, vI x97), (17, vI 4)]) [1, 2, 3, 4, 5, 6, 7, 0] rfl ?_
            refine g_wl1s (fun x107 => [(0, Value.ref (ad 0)), (2, Value.ref (ad 162)), (7, vI x4), (13, vI x94), (14, vI x95), (15, vI x96), (16, vI x97), (17, vI x107)]) h ?_
            clear h
            intro x107 s108 ag644 hag644 h
            refine a_iload (pc := 644) a 7 dL_acts_644 rfl ?_
            refine a_iload (pc := 646) a 5 dL_acts_646 rfl ?_
            refine g_wj0 690 0 0 [(0, Value.ref (ad 0)), (2, Value.ref (ad 162)), (7, vI x4), (13, vI x94), (14, vI x95), (16, vI x97)] [] h ?_ ?_
            · clear h
              intro  h
              refine a_aload_n (pc := 690) a 1 dL_acts_690 rfl rfl ?_
              refine a_iload (pc := 691) a 4 dL_acts_691 rfl ?_
              refine a_dup2 (pc := 693) a rfl rfl dL_acts_693 ?_
              refine a_iald (pc := 694) a (tw hinj w3) (by decide) h.1 dL_acts_694 ?_
              replace h := h.2
              refine a_iload (pc := 695) a 5 dL_acts_695 rfl ?_
              refine g_wj1 705 0 0 (fun x113 => [(0, Value.ref (ad 0)), (2, Value.ref (ad 162)), (7, vI x4), (13, vI x94), (14, vI x95)]) (fun x113 => [vI x113, vI (s108 162 x95), vI x95, Value.ref (ad 162)]) h ?_ ?_
              · clear h
                intro x113 h
                refine a_iadd (pc := 705) a dL_acts_705 ?_
                refine a_iast (pc := 706) a (tw hinj w3) (by decide) h.1 dL_acts_706 ?_
                replace h := h.2
                refine a_nmS (fun s114 hx => ?_)
                replace h := h s114 hx
                clear hx
                refine a_aload_n (pc := 707) a 0 dL_acts_707 rfl rfl ?_
                refine a_iload (pc := 708) a 2 dL_acts_708 rfl ?_
                refine a_iload (pc := 710) a 3 dL_acts_710 rfl ?_
                refine a_cwi (pc := 712) a (As := [Value.ref (ad 0), vI x4, vI x94]) (rest := []) (fun sz => c_L_limits hinj hl0  h sz) (vx_cwSW 3 hts (gl_S (GL_22 _ (by decide +kernel)) (GL_22 _ (by decide +kernel)) (GL_4 _ (by decide +kernel)) (GL_22 _ (by decide +kernel))) rfl rfl rfl (by decide +kernel) ⟨Nat.le_of_ble_eq_true rfl, Nat.le_of_ble_eq_true rfl⟩) rfl rfl (Nat.le_of_ble_eq_true rfl) ⟨Nat.le_of_ble_eq_true rfl, Nat.le_of_ble_eq_true rfl⟩ dL_acts_712 ?_
                clear h
                intro x115 s116 h
                refine a_aload_n (pc := 715) a 1 dL_acts_715 rfl rfl ?_
                refine a_iload (pc := 716) a 4 dL_acts_716 rfl ?_
                refine a_iald (pc := 718) a (tw hinj w3) (by decide) h.1 dL_acts_718 ?_
                replace h := h.2
                refine a_icmp_ne (pc := 719) a h.1 h.2.1 dL_acts_719 (tgt := 726) (by decide) (fun hq => ?_) (fun hq => ?_)
                · replace h := h.2.2.1 hq
                  clear hq
                  refine a_iconst (pc := 726) a dL_acts_726 ?_
                  refine a_wid 6 36 (by omega) (by omega) ?_
                  exact e_z (pc := 727) a hr (by decide) dL_acts_727 h
                · replace h := h.2.2.2 hq
                  clear hq
                  refine a_iconst (pc := 722) a dL_acts_722 ?_
                  refine a_goto (pc := 723) a dL_acts_723 (tgt := 727) (by decide) ?_
                  refine a_wid 6 36 (by omega) (by omega) ?_
                  exact e_z (pc := 727) a hr (by decide) dL_acts_727 h
              · clear h
                intro jj705 hjj705 h
                refine a_if_eq (pc := 697) a h.1 dL_acts_697 (tgt := 704) (by decide) (fun hq => ?_) (fun hq => ?_)
                · replace h := h.2.1 hq
                  clear hq
                  refine a_iconst (pc := 704) a dL_acts_704 ?_
                  refine a_sub (ls1 := [(0, Value.ref (ad 0)), (2, Value.ref (ad 162)), (7, vI x4), (13, vI x94), (14, vI x95)]) [0, 1, 2, 3, 4] rfl ?_
                  exact hjj705 1 h
                · replace h := h.2.2 hq
                  clear hq
                  refine a_iconst (pc := 700) a dL_acts_700 ?_
                  refine a_goto (pc := 701) a dL_acts_701 (tgt := 705) (by decide) ?_
                  refine a_sub (ls1 := [(0, Value.ref (ad 0)), (2, Value.ref (ad 162)), (7, vI x4), (13, vI x94), (14, vI x95)]) [0, 1, 2, 3, 4] rfl ?_
                  exact hjj705 (-1) h
            · clear h
              intro jj690 hjj690 h
              refine a_icmp_lt (pc := 648) a h.1 h.2.1 dL_acts_648 (tgt := 690) (by decide) (fun hq => ?_) (fun hq => ?_)
              · replace h := h.2.2.1 hq
                clear hq
                refine a_sub (ls1 := [(0, Value.ref (ad 0)), (2, Value.ref (ad 162)), (7, vI x4), (13, vI x94), (14, vI x95), (16, vI x97)]) [0, 1, 2, 3, 4, 6] rfl ?_
                exact hjj690  h
              · replace h := h.2.2.2 hq
                clear hq
                refine a_iload (pc := 651) a 6 dL_acts_651 rfl ?_
                refine a_if_ne (pc := 653) a h.1 dL_acts_653 (tgt := 690) (by decide) (fun hq => ?_) (fun hq => ?_)
                · replace h := h.2.1 hq
                  clear hq
                  refine a_sub (ls1 := [(0, Value.ref (ad 0)), (2, Value.ref (ad 162)), (7, vI x4), (13, vI x94), (14, vI x95), (16, vI x97)]) [0, 1, 2, 3, 4, 6] rfl ?_
                  exact hjj690  h
                · replace h := h.2.2 hq
                  clear hq
                  refine a_aload_n (pc := 656) a 1 dL_acts_656 rfl rfl ?_
                  refine a_iload (pc := 657) a 4 dL_acts_657 rfl ?_
                  refine a_iconst (pc := 659) a dL_acts_659 ?_
                  refine a_iadd (pc := 660) a dL_acts_660 ?_
                  refine a_iload (pc := 661) a 7 dL_acts_661 rfl ?_
                  refine a_iadd (pc := 663) a dL_acts_663 ?_
                  refine a_iload (pc := 664) a 7 dL_acts_664 rfl ?_
                  refine a_iload (pc := 666) a 5 dL_acts_666 rfl ?_
                  refine a_icmp_ne (pc := 668) a h.1 h.2.1 dL_acts_668 (tgt := 676) (by decide) (fun hq => ?_) (fun hq => ?_)
                  · replace h := h.2.2.1 hq
                    clear hq
                    refine a_aload_n (pc := 676) a 1 dL_acts_676 rfl rfl ?_
                    refine a_iload (pc := 677) a 4 dL_acts_677 rfl ?_
                    refine a_iload (pc := 679) a 7 dL_acts_679 rfl ?_
                    refine a_iadd (pc := 681) a dL_acts_681 ?_
                    refine a_iald (pc := 682) a (tw hinj w3) (by decide) h.1 dL_acts_682 ?_
                    replace h := h.2
                    refine a_iast (pc := 683) a (tw hinj w3) (by decide) h.1 dL_acts_683 ?_
                    replace h := h.2
                    refine a_nmS (fun s110 hx => ?_)
                    replace h := h s110 hx
                    clear hx
                    refine a_iinc (pc := 684) a (ls1 := [(17, vI (x107 + (-1))), (0, Value.ref (ad 0)), (2, Value.ref (ad 162)), (7, vI x4), (13, vI x94), (14, vI x95), (15, vI x96), (16, vI x97)]) 7 dL_acts_684 rfl (by decide) rfl ?_
                    refine a_goto (pc := 687) a dL_acts_687 (tgt := 644) (by decide) ?_
                    refine a_sub (ls1 := [(0, Value.ref (ad 0)), (2, Value.ref (ad 162)), (7, vI x4), (13, vI x94), (14, vI x95), (15, vI x96), (16, vI x97), (17, vI (x107 + (-1)))]) [1, 2, 3, 4, 5, 6, 7, 0] rfl ?_
                    exact hag644 (x107 + (-1)) s110 h
                  · replace h := h.2.2.2 hq
                    clear hq
                    refine a_iload (pc := 671) a 3 dL_acts_671 rfl ?_
                    refine a_goto (pc := 673) a dL_acts_673 (tgt := 683) (by decide) ?_
                    refine a_iast (pc := 683) a (tw hinj w3) (by decide) h.1 dL_acts_683 ?_
                    replace h := h.2
                    refine a_nmS (fun s111 hx => ?_)
                    replace h := h s111 hx
                    clear hx
                    refine a_iinc (pc := 684) a (ls1 := [(17, vI (x107 + (-1))), (0, Value.ref (ad 0)), (2, Value.ref (ad 162)), (7, vI x4), (13, vI x94), (14, vI x95), (15, vI x96), (16, vI x97)]) 7 dL_acts_684 rfl (by decide) rfl ?_
                    refine a_goto (pc := 687) a dL_acts_687 (tgt := 644) (by decide) ?_
                    refine a_sub (ls1 := [(0, Value.ref (ad 0)), (2, Value.ref (ad 162)), (7, vI x4), (13, vI x94), (14, vI x95), (15, vI x96), (16, vI x97), (17, vI (x107 + (-1)))]) [1, 2, 3, 4, 5, 6, 7, 0] rfl ?_
                    exact hag644 (x107 + (-1)) s111 h
          · clear h
            intro jj641 hjj641 h
            refine a_icmp_ge (pc := 599) a h.1 ⟨by decide, by decide⟩ dL_acts_599 (tgt := 641) (by decide) (fun hq => ?_) (fun hq => ?_)
            · replace h := h.2.1 hq
              clear hq
              refine a_sub (ls1 := [(0, Value.ref (ad 0)), (2, Value.ref (ad 162)), (7, vI x4), (13, vI x94), (14, vI x95), (15, vI x96), (16, vI x97)]) [0, 1, 2, 3, 4, 5, 6] rfl ?_
              exact hjj641  h
            · replace h := h.2.2 hq
              clear hq
              refine a_iload (pc := 602) a 6 dL_acts_602 rfl ?_
              refine a_if_eq (pc := 604) a h.1 dL_acts_604 (tgt := 641) (by decide) (fun hq => ?_) (fun hq => ?_)
              · replace h := h.2.1 hq
                clear hq
                refine a_sub (ls1 := [(0, Value.ref (ad 0)), (2, Value.ref (ad 162)), (7, vI x4), (13, vI x94), (14, vI x95), (15, vI x96), (16, vI x97)]) [0, 1, 2, 3, 4, 5, 6] rfl ?_
                exact hjj641  h
              · replace h := h.2.2 hq
                clear hq
                refine a_aload_n (pc := 607) a 1 dL_acts_607 rfl rfl ?_
                refine a_iload (pc := 608) a 4 dL_acts_608 rfl ?_
                refine a_iconst (pc := 610) a dL_acts_610 ?_
                refine a_iadd (pc := 611) a dL_acts_611 ?_
                refine a_iload (pc := 612) a 7 dL_acts_612 rfl ?_
                refine a_iadd (pc := 614) a dL_acts_614 ?_
                refine a_iload (pc := 615) a 7 dL_acts_615 rfl ?_
                refine a_iconst (pc := 617) a dL_acts_617 ?_
                refine a_icmp_ge (pc := 618) a h.1 ⟨by decide, by decide⟩ dL_acts_618 (tgt := 633) (by decide) (fun hq => ?_) (fun hq => ?_)
                · replace h := h.2.1 hq
                  clear hq
                  refine a_iconst (pc := 633) a dL_acts_633 ?_
                  refine a_iast (pc := 634) a (tw hinj w3) (by decide) h.1 dL_acts_634 ?_
                  replace h := h.2
                  refine a_nmS (fun s105 hx => ?_)
                  replace h := h s105 hx
                  clear hx
                  refine a_iinc (pc := 635) a (ls1 := [(17, vI (x102 + 1)), (0, Value.ref (ad 0)), (2, Value.ref (ad 162)), (7, vI x4), (13, vI x94), (14, vI x95), (15, vI x96), (16, vI x97)]) 7 dL_acts_635 rfl (by decide) rfl ?_
                  refine a_goto (pc := 638) a dL_acts_638 (tgt := 596) (by decide) ?_
                  refine a_sub (ls1 := [(0, Value.ref (ad 0)), (2, Value.ref (ad 162)), (7, vI x4), (13, vI x94), (14, vI x95), (15, vI x96), (16, vI x97), (17, vI (x102 + 1))]) [1, 2, 3, 4, 5, 6, 7, 0] rfl ?_
                  exact hag596 (x102 + 1) s105 h
                · replace h := h.2.2 hq
                  clear hq
                  refine a_aload_n (pc := 621) a 1 dL_acts_621 rfl rfl ?_
                  refine a_iload (pc := 622) a 4 dL_acts_622 rfl ?_
                  refine a_iconst (pc := 624) a dL_acts_624 ?_
                  refine a_iadd (pc := 625) a dL_acts_625 ?_
                  refine a_iload (pc := 626) a 7 dL_acts_626 rfl ?_
                  refine a_iadd (pc := 628) a dL_acts_628 ?_
                  refine a_iald (pc := 629) a (tw hinj w3) (by decide) h.1 dL_acts_629 ?_
                  replace h := h.2
                  refine a_goto (pc := 630) a dL_acts_630 (tgt := 634) (by decide) ?_
                  refine a_iast (pc := 634) a (tw hinj w3) (by decide) h.1 dL_acts_634 ?_
                  replace h := h.2
                  refine a_nmS (fun s106 hx => ?_)
                  replace h := h s106 hx
                  clear hx
                  refine a_iinc (pc := 635) a (ls1 := [(17, vI (x102 + 1)), (0, Value.ref (ad 0)), (2, Value.ref (ad 162)), (7, vI x4), (13, vI x94), (14, vI x95), (15, vI x96), (16, vI x97)]) 7 dL_acts_635 rfl (by decide) rfl ?_
                  refine a_goto (pc := 638) a dL_acts_638 (tgt := 596) (by decide) ?_
                  refine a_sub (ls1 := [(0, Value.ref (ad 0)), (2, Value.ref (ad 162)), (7, vI x4), (13, vI x94), (14, vI x95), (15, vI x96), (16, vI x97), (17, vI (x102 + 1))]) [1, 2, 3, 4, 5, 6, 7, 0] rfl ?_
                  exact hag596 (x102 + 1) s106 h
        · clear h
          intro jj592 hjj592 h
          refine a_if_ne (pc := 562) a h.1 dL_acts_562 (tgt := 592) (by decide) (fun hq => ?_) (fun hq => ?_)
          · replace h := h.2.1 hq
            clear hq
            refine a_sub (ls1 := [(0, Value.ref (ad 0)), (2, Value.ref (ad 162)), (7, vI x4), (13, vI x94), (14, vI x95), (15, vI x96), (16, vI x97)]) [0, 1, 2, 3, 4, 5, 6] rfl ?_
            refine a_wid 0 0 (by omega) (by omega) ?_
            exact hjj592  h
          · replace h := h.2.2 hq
            clear hq
            refine a_aload_n (pc := 565) a 1 dL_acts_565 rfl rfl ?_
            refine a_iload (pc := 566) a 4 dL_acts_566 rfl ?_
            refine a_iald (pc := 568) a (tw hinj w3) (by decide) h.1 dL_acts_568 ?_
            replace h := h.2
            refine a_iconst (pc := 569) a dL_acts_569 ?_
            refine a_icmp_ne (pc := 570) a h.1 ⟨by decide, by decide⟩ dL_acts_570 (tgt := 592) (by decide) (fun hq => ?_) (fun hq => ?_)
            · replace h := h.2.1 hq
              clear hq
              refine a_sub (ls1 := [(0, Value.ref (ad 0)), (2, Value.ref (ad 162)), (7, vI x4), (13, vI x94), (14, vI x95), (15, vI x96), (16, vI x97)]) [0, 1, 2, 3, 4, 5, 6] rfl ?_
              refine a_wid 0 0 (by omega) (by omega) ?_
              exact hjj592  h
            · replace h := h.2.2 hq
              clear hq
              refine a_aload_n (pc := 573) a 0 dL_acts_573 rfl rfl ?_
              refine a_iload (pc := 574) a 2 dL_acts_574 rfl ?_
              refine a_iload (pc := 576) a 3 dL_acts_576 rfl ?_
              refine a_cwi (pc := 578) a (As := [Value.ref (ad 0), vI x4, vI x94]) (rest := []) (fun sz => c_L_limits hinj hl0  h sz) (vx_cwSW 3 hts (gl_S (GL_22 _ (by decide +kernel)) (GL_22 _ (by decide +kernel)) (GL_4 _ (by decide +kernel)) (GL_22 _ (by decide +kernel))) rfl rfl rfl (by decide +kernel) ⟨Nat.le_of_ble_eq_true rfl, Nat.le_of_ble_eq_true rfl⟩) rfl rfl (Nat.le_of_ble_eq_true rfl) ⟨Nat.le_of_ble_eq_true rfl, Nat.le_of_ble_eq_true rfl⟩ dL_acts_578 ?_
              clear h
              intro x100 s101 h
              refine a_ldc (pc := 581) a (n := (-100003)) w6 dL_acts_581 ?_
              refine a_icmp_ne (pc := 583) a h.1 ⟨by decide, by decide⟩ dL_acts_583 (tgt := 590) (by decide) (fun hq => ?_) (fun hq => ?_)
              · replace h := h.2.1 hq
                clear hq
                refine a_iconst (pc := 590) a dL_acts_590 ?_
                refine a_wid 6 36 (by omega) (by omega) ?_
                exact e_z (pc := 591) a hr (by decide) dL_acts_591 h
              · replace h := h.2.2 hq
                clear hq
                refine a_iconst (pc := 586) a dL_acts_586 ?_
                refine a_goto (pc := 587) a dL_acts_587 (tgt := 591) (by decide) ?_
                refine a_wid 6 36 (by omega) (by omega) ?_
                exact e_z (pc := 591) a hr (by decide) dL_acts_591 h
      · replace h := h.2.2.2 hq
        clear hq
        refine a_iload (pc := 504) a 5 dL_acts_504 rfl ?_
        refine a_aload_n (pc := 506) a 1 dL_acts_506 rfl rfl ?_
        refine a_iload (pc := 507) a 4 dL_acts_507 rfl ?_
        refine a_iconst (pc := 509) a dL_acts_509 ?_
        refine a_iadd (pc := 510) a dL_acts_510 ?_
        refine a_iload (pc := 511) a 7 dL_acts_511 rfl ?_
        refine a_iadd (pc := 513) a dL_acts_513 ?_
        refine a_iald (pc := 514) a (tw hinj w3) (by decide) h.1 dL_acts_514 ?_
        replace h := h.2
        refine a_iload (pc := 515) a 3 dL_acts_515 rfl ?_
        refine g_wj1 525 0 0 (fun x118 => [(0, Value.ref (ad 0)), (2, Value.ref (ad 162)), (7, vI x4), (13, vI x94), (14, vI x95), (16, vI x97), (17, vI x98)]) (fun x118 => [vI x118, vI x96]) h ?_ ?_
        · clear h
          intro x118 h
          refine a_iadd (pc := 525) a dL_acts_525 ?_
          refine a_nm (fun x119 hx => ?_)
          replace h := h x119 hx
          clear hx
          refine a_istore (pc := 526) a (ls1 := [(15, vI x119), (0, Value.ref (ad 0)), (2, Value.ref (ad 162)), (7, vI x4), (13, vI x94), (14, vI x95), (16, vI x97), (17, vI x98)]) dL_acts_526 (by decide) rfl ?_
          refine a_iload (pc := 528) a 6 dL_acts_528 rfl ?_
          refine a_if_ne (pc := 530) a h.1 dL_acts_530 (tgt := 547) (by decide) (fun hq => ?_) (fun hq => ?_)
          · replace h := h.2.1 hq
            clear hq
            refine a_iconst (pc := 547) a dL_acts_547 ?_
            refine a_goto (pc := 548) a dL_acts_548 (tgt := 552) (by decide) ?_
            refine a_istore (pc := 552) a (ls1 := [(16, vI 1), (15, vI x119), (0, Value.ref (ad 0)), (2, Value.ref (ad 162)), (7, vI x4), (13, vI x94), (14, vI x95), (17, vI x98)]) dL_acts_552 (by decide) rfl ?_
            refine a_iinc (pc := 554) a (ls1 := [(17, vI (x98 + 1)), (16, vI 1), (15, vI x119), (0, Value.ref (ad 0)), (2, Value.ref (ad 162)), (7, vI x4), (13, vI x94), (14, vI x95)]) 7 dL_acts_554 rfl (by decide) rfl ?_
            refine a_goto (pc := 557) a dL_acts_557 (tgt := 495) (by decide) ?_
            refine a_sub (ls1 := [(0, Value.ref (ad 0)), (2, Value.ref (ad 162)), (7, vI x4), (13, vI x94), (14, vI x95), (15, vI x119), (16, vI 1), (17, vI (x98 + 1))]) [3, 4, 5, 6, 7, 2, 1, 0] rfl ?_
            exact hag495 x119 1 (x98 + 1) h
          · replace h := h.2.2 hq
            clear hq
            refine a_aload_n (pc := 533) a 2 dL_acts_533 rfl rfl ?_
            refine a_iload (pc := 534) a 5 dL_acts_534 rfl ?_
            refine a_iconst (pc := 536) a dL_acts_536 ?_
            refine a_iadd (pc := 537) a dL_acts_537 ?_
            refine a_iload (pc := 538) a 7 dL_acts_538 rfl ?_
            refine a_iadd (pc := 540) a dL_acts_540 ?_
            refine a_iald (pc := 541) a (tw hinj w3) (by decide) h.1 dL_acts_541 ?_
            replace h := h.2
            refine a_iload (pc := 542) a 4 dL_acts_542 rfl ?_
            refine a_icmp_ne (pc := 544) a h.1 h.2.1 dL_acts_544 (tgt := 551) (by decide) (fun hq => ?_) (fun hq => ?_)
            · replace h := h.2.2.1 hq
              clear hq
              refine a_iconst (pc := 551) a dL_acts_551 ?_
              refine a_istore (pc := 552) a (ls1 := [(16, vI 0), (15, vI x119), (0, Value.ref (ad 0)), (2, Value.ref (ad 162)), (7, vI x4), (13, vI x94), (14, vI x95), (17, vI x98)]) dL_acts_552 (by decide) rfl ?_
              refine a_iinc (pc := 554) a (ls1 := [(17, vI (x98 + 1)), (16, vI 0), (15, vI x119), (0, Value.ref (ad 0)), (2, Value.ref (ad 162)), (7, vI x4), (13, vI x94), (14, vI x95)]) 7 dL_acts_554 rfl (by decide) rfl ?_
              refine a_goto (pc := 557) a dL_acts_557 (tgt := 495) (by decide) ?_
              refine a_sub (ls1 := [(0, Value.ref (ad 0)), (2, Value.ref (ad 162)), (7, vI x4), (13, vI x94), (14, vI x95), (15, vI x119), (16, vI 0), (17, vI (x98 + 1))]) [3, 4, 5, 6, 7, 2, 1, 0] rfl ?_
              exact hag495 x119 0 (x98 + 1) h
            · replace h := h.2.2.2 hq
              clear hq
              refine a_iconst (pc := 547) a dL_acts_547 ?_
              refine a_goto (pc := 548) a dL_acts_548 (tgt := 552) (by decide) ?_
              refine a_istore (pc := 552) a (ls1 := [(16, vI 1), (15, vI x119), (0, Value.ref (ad 0)), (2, Value.ref (ad 162)), (7, vI x4), (13, vI x94), (14, vI x95), (17, vI x98)]) dL_acts_552 (by decide) rfl ?_
              refine a_iinc (pc := 554) a (ls1 := [(17, vI (x98 + 1)), (16, vI 1), (15, vI x119), (0, Value.ref (ad 0)), (2, Value.ref (ad 162)), (7, vI x4), (13, vI x94), (14, vI x95)]) 7 dL_acts_554 rfl (by decide) rfl ?_
              refine a_goto (pc := 557) a dL_acts_557 (tgt := 495) (by decide) ?_
              refine a_sub (ls1 := [(0, Value.ref (ad 0)), (2, Value.ref (ad 162)), (7, vI x4), (13, vI x94), (14, vI x95), (15, vI x119), (16, vI 1), (17, vI (x98 + 1))]) [3, 4, 5, 6, 7, 2, 1, 0] rfl ?_
              exact hag495 x119 1 (x98 + 1) h
        · clear h
          intro jj525 hjj525 h
          refine a_icmp_ge (pc := 517) a h.1 h.2.1 dL_acts_517 (tgt := 524) (by decide) (fun hq => ?_) (fun hq => ?_)
          · replace h := h.2.2.1 hq
            clear hq
            refine a_iconst (pc := 524) a dL_acts_524 ?_
            refine a_sub (ls1 := [(0, Value.ref (ad 0)), (2, Value.ref (ad 162)), (7, vI x4), (13, vI x94), (14, vI x95), (16, vI x97), (17, vI x98)]) [0, 1, 2, 3, 4, 6, 7] rfl ?_
            refine a_wid 0 0 (by omega) (by omega) ?_
            exact hjj525 0 h
          · replace h := h.2.2.2 hq
            clear hq
            refine a_iconst (pc := 520) a dL_acts_520 ?_
            refine a_goto (pc := 521) a dL_acts_521 (tgt := 525) (by decide) ?_
            refine a_sub (ls1 := [(0, Value.ref (ad 0)), (2, Value.ref (ad 162)), (7, vI x4), (13, vI x94), (14, vI x95), (16, vI x97), (17, vI x98)]) [0, 1, 2, 3, 4, 6, 7] rfl ?_
            refine a_wid 0 0 (by omega) (by omega) ?_
            exact hjj525 1 h
    · replace h := h.2.2.2.2.2.2.2.2.2.2.1 hq
      refine a_tsIn (pc := 44) a 9 hq ⟨by decide, by decide⟩ dL_acts_44 (by decide) (by decide) rfl (tgt := 463) (by decide) ?_
      clear hq
      refine a_iconst (pc := 463) a dL_acts_463 ?_
      refine a_iload (pc := 464) a 7 dL_acts_464 rfl ?_
      refine a_iconst (pc := 466) a dL_acts_466 ?_
      refine a_idiv (pc := 467) a dL_acts_467 h.1 (by decide) ?_
      replace h := h.2
      refine a_bipush (pc := 468) a dL_acts_468 (by decide) ?_
      refine a_irem (pc := 470) a dL_acts_470 h.1 (by decide) ?_
      replace h := h.2
      refine a_bipush (pc := 471) a dL_acts_471 (by decide) ?_
      refine a_imul (pc := 473) a dL_acts_473 ?_
      refine a_iadd (pc := 474) a dL_acts_474 ?_
      refine a_nm (fun x120 hx => ?_)
      replace h := h x120 hx
      clear hx
      refine a_istore (pc := 475) a (ls1 := [(13, vI x120), (7, vI x4), (6, vI x3), (0, Value.ref (ad 0)), (1, Value.ref (ad 161)), (2, Value.ref (ad 162)), (3, Value.ref (ad 163)), (4, vI p5), (5, vI x1)]) dL_acts_475 (by decide) rfl ?_
      refine a_bipush (pc := 477) a dL_acts_477 (by decide) ?_
      refine a_iload (pc := 479) a 1 dL_acts_479 rfl ?_
      refine a_imul (pc := 481) a dL_acts_481 ?_
      refine a_iconst (pc := 482) a dL_acts_482 ?_
      refine a_iadd (pc := 483) a dL_acts_483 ?_
      refine a_nm (fun x121 hx => ?_)
      replace h := h x121 hx
      clear hx
      refine a_istore (pc := 484) a (ls1 := [(14, vI x121), (13, vI x120), (7, vI x4), (6, vI x3), (0, Value.ref (ad 0)), (1, Value.ref (ad 161)), (2, Value.ref (ad 162)), (3, Value.ref (ad 163)), (4, vI p5), (5, vI x1)]) dL_acts_484 (by decide) rfl ?_
      refine a_iconst (pc := 486) a dL_acts_486 ?_
      refine a_istore (pc := 487) a (ls1 := [(15, vI 0), (14, vI x121), (13, vI x120), (7, vI x4), (6, vI x3), (0, Value.ref (ad 0)), (1, Value.ref (ad 161)), (2, Value.ref (ad 162)), (3, Value.ref (ad 163)), (4, vI p5), (5, vI x1)]) dL_acts_487 (by decide) rfl ?_
      refine a_iconst (pc := 489) a dL_acts_489 ?_
      refine a_istore (pc := 490) a (ls1 := [(16, vI 0), (15, vI 0), (14, vI x121), (13, vI x120), (7, vI x4), (6, vI x3), (0, Value.ref (ad 0)), (1, Value.ref (ad 161)), (2, Value.ref (ad 162)), (3, Value.ref (ad 163)), (4, vI p5), (5, vI x1)]) dL_acts_490 (by decide) rfl ?_
      refine a_iconst (pc := 492) a dL_acts_492 ?_
      refine a_istore (pc := 493) a (ls1 := [(17, vI 0), (16, vI 0), (15, vI 0), (14, vI x121), (13, vI x120), (7, vI x4), (6, vI x3), (0, Value.ref (ad 0)), (1, Value.ref (ad 161)), (2, Value.ref (ad 162)), (3, Value.ref (ad 163)), (4, vI p5), (5, vI x1)]) dL_acts_493 (by decide) rfl ?_
      refine a_sub (ls1 := [(0, Value.ref (ad 0)), (2, Value.ref (ad 162)), (7, vI x4), (13, vI x120), (14, vI x121), (15, vI 0), (16, vI 0), (17, vI 0)]) [7, 9, 5, 4, 3, 2, 1, 0] rfl ?_
      refine g_wl3 (fun x122 x123 x124 => [(0, Value.ref (ad 0)), (2, Value.ref (ad 162)), (7, vI x4), (13, vI x120), (14, vI x121), (15, vI x122), (16, vI x123), (17, vI x124)]) h ?_
      clear h
      intro x122 x123 x124 ag495 hag495 h
      refine a_iload (pc := 495) a 7 dL_acts_495 rfl ?_
      refine a_aload_n (pc := 497) a 1 dL_acts_497 rfl rfl ?_
      refine a_iload (pc := 498) a 4 dL_acts_498 rfl ?_
      refine a_iald (pc := 500) a (tw hinj w3) (by decide) h.1 dL_acts_500 ?_
      replace h := h.2
      refine a_icmp_ge (pc := 501) a h.1 h.2.1 dL_acts_501 (tgt := 560) (by decide) (fun hq => ?_) (fun hq => ?_)
      · replace h := h.2.2.1 hq
        clear hq
        refine a_iload (pc := 560) a 6 dL_acts_560 rfl ?_
        refine g_wj0 592 0 0 [(0, Value.ref (ad 0)), (2, Value.ref (ad 162)), (7, vI x4), (13, vI x120), (14, vI x121), (15, vI x122), (16, vI x123)] [] h ?_ ?_
        · clear h
          intro  h
          refine a_iload (pc := 592) a 5 dL_acts_592 rfl ?_
          refine a_istore (pc := 594) a (ls1 := [(17, vI x122), (0, Value.ref (ad 0)), (2, Value.ref (ad 162)), (7, vI x4), (13, vI x120), (14, vI x121), (15, vI x122), (16, vI x123)]) dL_acts_594 (by decide) rfl ?_
          refine a_sub (ls1 := [(0, Value.ref (ad 0)), (2, Value.ref (ad 162)), (7, vI x4), (13, vI x120), (14, vI x121), (15, vI x122), (16, vI x123), (17, vI x122)]) [1, 2, 3, 4, 5, 6, 7, 0] rfl ?_
          refine g_wl1s (fun x128 => [(0, Value.ref (ad 0)), (2, Value.ref (ad 162)), (7, vI x4), (13, vI x120), (14, vI x121), (15, vI x122), (16, vI x123), (17, vI x128)]) h ?_
          clear h
          intro x128 s129 ag596 hag596 h
          refine a_iload (pc := 596) a 7 dL_acts_596 rfl ?_
          refine a_iconst (pc := 598) a dL_acts_598 ?_
          refine g_wj0 641 0 0 [(0, Value.ref (ad 0)), (2, Value.ref (ad 162)), (7, vI x4), (13, vI x120), (14, vI x121), (15, vI x122), (16, vI x123)] [] h ?_ ?_
          · clear h
            intro  h
            refine a_iconst (pc := 641) a dL_acts_641 ?_
            refine a_istore (pc := 642) a (ls1 := [(17, vI 4), (0, Value.ref (ad 0)), (2, Value.ref (ad 162)), (7, vI x4), (13, vI x120), (14, vI x121), (15, vI x122), (16, vI x123)]) dL_acts_642 (by decide) rfl ?_
            refine a_sub (ls1 := [(0, Value.ref (ad 0)), (2, Value.ref (ad 162)), (7, vI x4), (13, vI x120), (14, vI x121), (15, vI x122), (16, vI x123), (17, vI 4)]) [1, 2, 3, 4, 5, 6, 7, 0] rfl ?_
            refine g_wl1s (fun x133 => [(0, Value.ref (ad 0)), (2, Value.ref (ad 162)), (7, vI x4), (13, vI x120), (14, vI x121), (15, vI x122), (16, vI x123), (17, vI x133)]) h ?_
            clear h
            intro x133 s134 ag644 hag644 h
            refine a_iload (pc := 644) a 7 dL_acts_644 rfl ?_
            refine a_iload (pc := 646) a 5 dL_acts_646 rfl ?_
            refine g_wj0 690 0 0 [(0, Value.ref (ad 0)), (2, Value.ref (ad 162)), (7, vI x4), (13, vI x120), (14, vI x121), (16, vI x123)] [] h ?_ ?_
            · clear h
              intro  h
              refine a_aload_n (pc := 690) a 1 dL_acts_690 rfl rfl ?_
              refine a_iload (pc := 691) a 4 dL_acts_691 rfl ?_
              refine a_dup2 (pc := 693) a rfl rfl dL_acts_693 ?_
              refine a_iald (pc := 694) a (tw hinj w3) (by decide) h.1 dL_acts_694 ?_
              replace h := h.2
              refine a_iload (pc := 695) a 5 dL_acts_695 rfl ?_
              refine g_wj1 705 0 0 (fun x139 => [(0, Value.ref (ad 0)), (2, Value.ref (ad 162)), (7, vI x4), (13, vI x120), (14, vI x121)]) (fun x139 => [vI x139, vI (s134 162 x121), vI x121, Value.ref (ad 162)]) h ?_ ?_
              · clear h
                intro x139 h
                refine a_iadd (pc := 705) a dL_acts_705 ?_
                refine a_iast (pc := 706) a (tw hinj w3) (by decide) h.1 dL_acts_706 ?_
                replace h := h.2
                refine a_nmS (fun s140 hx => ?_)
                replace h := h s140 hx
                clear hx
                refine a_aload_n (pc := 707) a 0 dL_acts_707 rfl rfl ?_
                refine a_iload (pc := 708) a 2 dL_acts_708 rfl ?_
                refine a_iload (pc := 710) a 3 dL_acts_710 rfl ?_
                refine a_cwi (pc := 712) a (As := [Value.ref (ad 0), vI x4, vI x120]) (rest := []) (fun sz => c_L_limits hinj hl0  h sz) (vx_cwSW 3 hts (gl_S (GL_22 _ (by decide +kernel)) (GL_22 _ (by decide +kernel)) (GL_4 _ (by decide +kernel)) (GL_22 _ (by decide +kernel))) rfl rfl rfl (by decide +kernel) ⟨Nat.le_of_ble_eq_true rfl, Nat.le_of_ble_eq_true rfl⟩) rfl rfl (Nat.le_of_ble_eq_true rfl) ⟨Nat.le_of_ble_eq_true rfl, Nat.le_of_ble_eq_true rfl⟩ dL_acts_712 ?_
                clear h
                intro x141 s142 h
                refine a_aload_n (pc := 715) a 1 dL_acts_715 rfl rfl ?_
                refine a_iload (pc := 716) a 4 dL_acts_716 rfl ?_
                refine a_iald (pc := 718) a (tw hinj w3) (by decide) h.1 dL_acts_718 ?_
                replace h := h.2
                refine a_icmp_ne (pc := 719) a h.1 h.2.1 dL_acts_719 (tgt := 726) (by decide) (fun hq => ?_) (fun hq => ?_)
                · replace h := h.2.2.1 hq
                  clear hq
                  refine a_iconst (pc := 726) a dL_acts_726 ?_
                  refine a_wid 6 36 (by omega) (by omega) ?_
                  exact e_z (pc := 727) a hr (by decide) dL_acts_727 h
                · replace h := h.2.2.2 hq
                  clear hq
                  refine a_iconst (pc := 722) a dL_acts_722 ?_
                  refine a_goto (pc := 723) a dL_acts_723 (tgt := 727) (by decide) ?_
                  refine a_wid 6 36 (by omega) (by omega) ?_
                  exact e_z (pc := 727) a hr (by decide) dL_acts_727 h
              · clear h
                intro jj705 hjj705 h
                refine a_if_eq (pc := 697) a h.1 dL_acts_697 (tgt := 704) (by decide) (fun hq => ?_) (fun hq => ?_)
                · replace h := h.2.1 hq
                  clear hq
                  refine a_iconst (pc := 704) a dL_acts_704 ?_
                  refine a_sub (ls1 := [(0, Value.ref (ad 0)), (2, Value.ref (ad 162)), (7, vI x4), (13, vI x120), (14, vI x121)]) [0, 1, 2, 3, 4] rfl ?_
                  exact hjj705 1 h
                · replace h := h.2.2 hq
                  clear hq
                  refine a_iconst (pc := 700) a dL_acts_700 ?_
                  refine a_goto (pc := 701) a dL_acts_701 (tgt := 705) (by decide) ?_
                  refine a_sub (ls1 := [(0, Value.ref (ad 0)), (2, Value.ref (ad 162)), (7, vI x4), (13, vI x120), (14, vI x121)]) [0, 1, 2, 3, 4] rfl ?_
                  exact hjj705 (-1) h
            · clear h
              intro jj690 hjj690 h
              refine a_icmp_lt (pc := 648) a h.1 h.2.1 dL_acts_648 (tgt := 690) (by decide) (fun hq => ?_) (fun hq => ?_)
              · replace h := h.2.2.1 hq
                clear hq
                refine a_sub (ls1 := [(0, Value.ref (ad 0)), (2, Value.ref (ad 162)), (7, vI x4), (13, vI x120), (14, vI x121), (16, vI x123)]) [0, 1, 2, 3, 4, 6] rfl ?_
                exact hjj690  h
              · replace h := h.2.2.2 hq
                clear hq
                refine a_iload (pc := 651) a 6 dL_acts_651 rfl ?_
                refine a_if_ne (pc := 653) a h.1 dL_acts_653 (tgt := 690) (by decide) (fun hq => ?_) (fun hq => ?_)
                · replace h := h.2.1 hq
                  clear hq
                  refine a_sub (ls1 := [(0, Value.ref (ad 0)), (2, Value.ref (ad 162)), (7, vI x4), (13, vI x120), (14, vI x121), (16, vI x123)]) [0, 1, 2, 3, 4, 6] rfl ?_
                  exact hjj690  h
                · replace h := h.2.2 hq
                  clear hq
                  refine a_aload_n (pc := 656) a 1 dL_acts_656 rfl rfl ?_
                  refine a_iload (pc := 657) a 4 dL_acts_657 rfl ?_
                  refine a_iconst (pc := 659) a dL_acts_659 ?_
                  refine a_iadd (pc := 660) a dL_acts_660 ?_
                  refine a_iload (pc := 661) a 7 dL_acts_661 rfl ?_
                  refine a_iadd (pc := 663) a dL_acts_663 ?_
                  refine a_iload (pc := 664) a 7 dL_acts_664 rfl ?_
                  refine a_iload (pc := 666) a 5 dL_acts_666 rfl ?_
                  refine a_icmp_ne (pc := 668) a h.1 h.2.1 dL_acts_668 (tgt := 676) (by decide) (fun hq => ?_) (fun hq => ?_)
                  · replace h := h.2.2.1 hq
                    clear hq
                    refine a_aload_n (pc := 676) a 1 dL_acts_676 rfl rfl ?_
                    refine a_iload (pc := 677) a 4 dL_acts_677 rfl ?_
                    refine a_iload (pc := 679) a 7 dL_acts_679 rfl ?_
                    refine a_iadd (pc := 681) a dL_acts_681 ?_
                    refine a_iald (pc := 682) a (tw hinj w3) (by decide) h.1 dL_acts_682 ?_
                    replace h := h.2
                    refine a_iast (pc := 683) a (tw hinj w3) (by decide) h.1 dL_acts_683 ?_
                    replace h := h.2
                    refine a_nmS (fun s136 hx => ?_)
                    replace h := h s136 hx
                    clear hx
                    refine a_iinc (pc := 684) a (ls1 := [(17, vI (x133 + (-1))), (0, Value.ref (ad 0)), (2, Value.ref (ad 162)), (7, vI x4), (13, vI x120), (14, vI x121), (15, vI x122), (16, vI x123)]) 7 dL_acts_684 rfl (by decide) rfl ?_
                    refine a_goto (pc := 687) a dL_acts_687 (tgt := 644) (by decide) ?_
                    refine a_sub (ls1 := [(0, Value.ref (ad 0)), (2, Value.ref (ad 162)), (7, vI x4), (13, vI x120), (14, vI x121), (15, vI x122), (16, vI x123), (17, vI (x133 + (-1)))]) [1, 2, 3, 4, 5, 6, 7, 0] rfl ?_
                    exact hag644 (x133 + (-1)) s136 h
                  · replace h := h.2.2.2 hq
                    clear hq
                    refine a_iload (pc := 671) a 3 dL_acts_671 rfl ?_
                    refine a_goto (pc := 673) a dL_acts_673 (tgt := 683) (by decide) ?_
                    refine a_iast (pc := 683) a (tw hinj w3) (by decide) h.1 dL_acts_683 ?_
                    replace h := h.2
                    refine a_nmS (fun s137 hx => ?_)
                    replace h := h s137 hx
                    clear hx
                    refine a_iinc (pc := 684) a (ls1 := [(17, vI (x133 + (-1))), (0, Value.ref (ad 0)), (2, Value.ref (ad 162)), (7, vI x4), (13, vI x120), (14, vI x121), (15, vI x122), (16, vI x123)]) 7 dL_acts_684 rfl (by decide) rfl ?_
                    refine a_goto (pc := 687) a dL_acts_687 (tgt := 644) (by decide) ?_
                    refine a_sub (ls1 := [(0, Value.ref (ad 0)), (2, Value.ref (ad 162)), (7, vI x4), (13, vI x120), (14, vI x121), (15, vI x122), (16, vI x123), (17, vI (x133 + (-1)))]) [1, 2, 3, 4, 5, 6, 7, 0] rfl ?_
                    exact hag644 (x133 + (-1)) s137 h
          · clear h
            intro jj641 hjj641 h
            refine a_icmp_ge (pc := 599) a h.1 ⟨by decide, by decide⟩ dL_acts_599 (tgt := 641) (by decide) (fun hq => ?_) (fun hq => ?_)
            · replace h := h.2.1 hq
              clear hq
              refine a_sub (ls1 := [(0, Value.ref (ad 0)), (2, Value.ref (ad 162)), (7, vI x4), (13, vI x120), (14, vI x121), (15, vI x122), (16, vI x123)]) [0, 1, 2, 3, 4, 5, 6] rfl ?_
              exact hjj641  h
            · replace h := h.2.2 hq
              clear hq
              refine a_iload (pc := 602) a 6 dL_acts_602 rfl ?_
              refine a_if_eq (pc := 604) a h.1 dL_acts_604 (tgt := 641) (by decide) (fun hq => ?_) (fun hq => ?_)
              · replace h := h.2.1 hq
                clear hq
                refine a_sub (ls1 := [(0, Value.ref (ad 0)), (2, Value.ref (ad 162)), (7, vI x4), (13, vI x120), (14, vI x121), (15, vI x122), (16, vI x123)]) [0, 1, 2, 3, 4, 5, 6] rfl ?_
                exact hjj641  h
              · replace h := h.2.2 hq
                clear hq
                refine a_aload_n (pc := 607) a 1 dL_acts_607 rfl rfl ?_
                refine a_iload (pc := 608) a 4 dL_acts_608 rfl ?_
                refine a_iconst (pc := 610) a dL_acts_610 ?_
                refine a_iadd (pc := 611) a dL_acts_611 ?_
                refine a_iload (pc := 612) a 7 dL_acts_612 rfl ?_
                refine a_iadd (pc := 614) a dL_acts_614 ?_
                refine a_iload (pc := 615) a 7 dL_acts_615 rfl ?_
                refine a_iconst (pc := 617) a dL_acts_617 ?_
                refine a_icmp_ge (pc := 618) a h.1 ⟨by decide, by decide⟩ dL_acts_618 (tgt := 633) (by decide) (fun hq => ?_) (fun hq => ?_)
                · replace h := h.2.1 hq
                  clear hq
                  refine a_iconst (pc := 633) a dL_acts_633 ?_
                  refine a_iast (pc := 634) a (tw hinj w3) (by decide) h.1 dL_acts_634 ?_
                  replace h := h.2
                  refine a_nmS (fun s131 hx => ?_)
                  replace h := h s131 hx
                  clear hx
                  refine a_iinc (pc := 635) a (ls1 := [(17, vI (x128 + 1)), (0, Value.ref (ad 0)), (2, Value.ref (ad 162)), (7, vI x4), (13, vI x120), (14, vI x121), (15, vI x122), (16, vI x123)]) 7 dL_acts_635 rfl (by decide) rfl ?_
                  refine a_goto (pc := 638) a dL_acts_638 (tgt := 596) (by decide) ?_
                  refine a_sub (ls1 := [(0, Value.ref (ad 0)), (2, Value.ref (ad 162)), (7, vI x4), (13, vI x120), (14, vI x121), (15, vI x122), (16, vI x123), (17, vI (x128 + 1))]) [1, 2, 3, 4, 5, 6, 7, 0] rfl ?_
                  exact hag596 (x128 + 1) s131 h
                · replace h := h.2.2 hq
                  clear hq
                  refine a_aload_n (pc := 621) a 1 dL_acts_621 rfl rfl ?_
                  refine a_iload (pc := 622) a 4 dL_acts_622 rfl ?_
                  refine a_iconst (pc := 624) a dL_acts_624 ?_
                  refine a_iadd (pc := 625) a dL_acts_625 ?_
                  refine a_iload (pc := 626) a 7 dL_acts_626 rfl ?_
                  refine a_iadd (pc := 628) a dL_acts_628 ?_
                  refine a_iald (pc := 629) a (tw hinj w3) (by decide) h.1 dL_acts_629 ?_
                  replace h := h.2
                  refine a_goto (pc := 630) a dL_acts_630 (tgt := 634) (by decide) ?_
                  refine a_iast (pc := 634) a (tw hinj w3) (by decide) h.1 dL_acts_634 ?_
                  replace h := h.2
                  refine a_nmS (fun s132 hx => ?_)
                  replace h := h s132 hx
                  clear hx
                  refine a_iinc (pc := 635) a (ls1 := [(17, vI (x128 + 1)), (0, Value.ref (ad 0)), (2, Value.ref (ad 162)), (7, vI x4), (13, vI x120), (14, vI x121), (15, vI x122), (16, vI x123)]) 7 dL_acts_635 rfl (by decide) rfl ?_
                  refine a_goto (pc := 638) a dL_acts_638 (tgt := 596) (by decide) ?_
                  refine a_sub (ls1 := [(0, Value.ref (ad 0)), (2, Value.ref (ad 162)), (7, vI x4), (13, vI x120), (14, vI x121), (15, vI x122), (16, vI x123), (17, vI (x128 + 1))]) [1, 2, 3, 4, 5, 6, 7, 0] rfl ?_
                  exact hag596 (x128 + 1) s132 h
        · clear h
          intro jj592 hjj592 h
          refine a_if_ne (pc := 562) a h.1 dL_acts_562 (tgt := 592) (by decide) (fun hq => ?_) (fun hq => ?_)
          · replace h := h.2.1 hq
            clear hq
            refine a_sub (ls1 := [(0, Value.ref (ad 0)), (2, Value.ref (ad 162)), (7, vI x4), (13, vI x120), (14, vI x121), (15, vI x122), (16, vI x123)]) [0, 1, 2, 3, 4, 5, 6] rfl ?_
            refine a_wid 0 0 (by omega) (by omega) ?_
            exact hjj592  h
          · replace h := h.2.2 hq
            clear hq
            refine a_aload_n (pc := 565) a 1 dL_acts_565 rfl rfl ?_
            refine a_iload (pc := 566) a 4 dL_acts_566 rfl ?_
            refine a_iald (pc := 568) a (tw hinj w3) (by decide) h.1 dL_acts_568 ?_
            replace h := h.2
            refine a_iconst (pc := 569) a dL_acts_569 ?_
            refine a_icmp_ne (pc := 570) a h.1 ⟨by decide, by decide⟩ dL_acts_570 (tgt := 592) (by decide) (fun hq => ?_) (fun hq => ?_)
            · replace h := h.2.1 hq
              clear hq
              refine a_sub (ls1 := [(0, Value.ref (ad 0)), (2, Value.ref (ad 162)), (7, vI x4), (13, vI x120), (14, vI x121), (15, vI x122), (16, vI x123)]) [0, 1, 2, 3, 4, 5, 6] rfl ?_
              refine a_wid 0 0 (by omega) (by omega) ?_
              exact hjj592  h
            · replace h := h.2.2 hq
              clear hq
              refine a_aload_n (pc := 573) a 0 dL_acts_573 rfl rfl ?_
              refine a_iload (pc := 574) a 2 dL_acts_574 rfl ?_
              refine a_iload (pc := 576) a 3 dL_acts_576 rfl ?_
              refine a_cwi (pc := 578) a (As := [Value.ref (ad 0), vI x4, vI x120]) (rest := []) (fun sz => c_L_limits hinj hl0  h sz) (vx_cwSW 3 hts (gl_S (GL_22 _ (by decide +kernel)) (GL_22 _ (by decide +kernel)) (GL_4 _ (by decide +kernel)) (GL_22 _ (by decide +kernel))) rfl rfl rfl (by decide +kernel) ⟨Nat.le_of_ble_eq_true rfl, Nat.le_of_ble_eq_true rfl⟩) rfl rfl (Nat.le_of_ble_eq_true rfl) ⟨Nat.le_of_ble_eq_true rfl, Nat.le_of_ble_eq_true rfl⟩ dL_acts_578 ?_
              clear h
              intro x126 s127 h
              refine a_ldc (pc := 581) a (n := (-100003)) w6 dL_acts_581 ?_
              refine a_icmp_ne (pc := 583) a h.1 ⟨by decide, by decide⟩ dL_acts_583 (tgt := 590) (by decide) (fun hq => ?_) (fun hq => ?_)
              · replace h := h.2.1 hq
                clear hq
                refine a_iconst (pc := 590) a dL_acts_590 ?_
                refine a_wid 6 36 (by omega) (by omega) ?_
                exact e_z (pc := 591) a hr (by decide) dL_acts_591 h
              · replace h := h.2.2 hq
                clear hq
                refine a_iconst (pc := 586) a dL_acts_586 ?_
                refine a_goto (pc := 587) a dL_acts_587 (tgt := 591) (by decide) ?_
                refine a_wid 6 36 (by omega) (by omega) ?_
                exact e_z (pc := 591) a hr (by decide) dL_acts_591 h
      · replace h := h.2.2.2 hq
        clear hq
        refine a_iload (pc := 504) a 5 dL_acts_504 rfl ?_
        refine a_aload_n (pc := 506) a 1 dL_acts_506 rfl rfl ?_
        refine a_iload (pc := 507) a 4 dL_acts_507 rfl ?_
        refine a_iconst (pc := 509) a dL_acts_509 ?_
        refine a_iadd (pc := 510) a dL_acts_510 ?_
        refine a_iload (pc := 511) a 7 dL_acts_511 rfl ?_
        refine a_iadd (pc := 513) a dL_acts_513 ?_
        refine a_iald (pc := 514) a (tw hinj w3) (by decide) h.1 dL_acts_514 ?_
        replace h := h.2
        refine a_iload (pc := 515) a 3 dL_acts_515 rfl ?_
        refine g_wj1 525 0 0 (fun x144 => [(0, Value.ref (ad 0)), (2, Value.ref (ad 162)), (7, vI x4), (13, vI x120), (14, vI x121), (16, vI x123), (17, vI x124)]) (fun x144 => [vI x144, vI x122]) h ?_ ?_
        · clear h
          intro x144 h
          refine a_iadd (pc := 525) a dL_acts_525 ?_
          refine a_nm (fun x145 hx => ?_)
          replace h := h x145 hx
          clear hx
          refine a_istore (pc := 526) a (ls1 := [(15, vI x145), (0, Value.ref (ad 0)), (2, Value.ref (ad 162)), (7, vI x4), (13, vI x120), (14, vI x121), (16, vI x123), (17, vI x124)]) dL_acts_526 (by decide) rfl ?_
          refine a_iload (pc := 528) a 6 dL_acts_528 rfl ?_
          refine a_if_ne (pc := 530) a h.1 dL_acts_530 (tgt := 547) (by decide) (fun hq => ?_) (fun hq => ?_)
          · replace h := h.2.1 hq
            clear hq
            refine a_iconst (pc := 547) a dL_acts_547 ?_
            refine a_goto (pc := 548) a dL_acts_548 (tgt := 552) (by decide) ?_
            refine a_istore (pc := 552) a (ls1 := [(16, vI 1), (15, vI x145), (0, Value.ref (ad 0)), (2, Value.ref (ad 162)), (7, vI x4), (13, vI x120), (14, vI x121), (17, vI x124)]) dL_acts_552 (by decide) rfl ?_
            refine a_iinc (pc := 554) a (ls1 := [(17, vI (x124 + 1)), (16, vI 1), (15, vI x145), (0, Value.ref (ad 0)), (2, Value.ref (ad 162)), (7, vI x4), (13, vI x120), (14, vI x121)]) 7 dL_acts_554 rfl (by decide) rfl ?_
            refine a_goto (pc := 557) a dL_acts_557 (tgt := 495) (by decide) ?_
            refine a_sub (ls1 := [(0, Value.ref (ad 0)), (2, Value.ref (ad 162)), (7, vI x4), (13, vI x120), (14, vI x121), (15, vI x145), (16, vI 1), (17, vI (x124 + 1))]) [3, 4, 5, 6, 7, 2, 1, 0] rfl ?_
            exact hag495 x145 1 (x124 + 1) h
          · replace h := h.2.2 hq
            clear hq
            refine a_aload_n (pc := 533) a 2 dL_acts_533 rfl rfl ?_
            refine a_iload (pc := 534) a 5 dL_acts_534 rfl ?_
            refine a_iconst (pc := 536) a dL_acts_536 ?_
            refine a_iadd (pc := 537) a dL_acts_537 ?_
            refine a_iload (pc := 538) a 7 dL_acts_538 rfl ?_
            refine a_iadd (pc := 540) a dL_acts_540 ?_
            refine a_iald (pc := 541) a (tw hinj w3) (by decide) h.1 dL_acts_541 ?_
            replace h := h.2
            refine a_iload (pc := 542) a 4 dL_acts_542 rfl ?_
            refine a_icmp_ne (pc := 544) a h.1 h.2.1 dL_acts_544 (tgt := 551) (by decide) (fun hq => ?_) (fun hq => ?_)
            · replace h := h.2.2.1 hq
              clear hq
              refine a_iconst (pc := 551) a dL_acts_551 ?_
              refine a_istore (pc := 552) a (ls1 := [(16, vI 0), (15, vI x145), (0, Value.ref (ad 0)), (2, Value.ref (ad 162)), (7, vI x4), (13, vI x120), (14, vI x121), (17, vI x124)]) dL_acts_552 (by decide) rfl ?_
              refine a_iinc (pc := 554) a (ls1 := [(17, vI (x124 + 1)), (16, vI 0), (15, vI x145), (0, Value.ref (ad 0)), (2, Value.ref (ad 162)), (7, vI x4), (13, vI x120), (14, vI x121)]) 7 dL_acts_554 rfl (by decide) rfl ?_
              refine a_goto (pc := 557) a dL_acts_557 (tgt := 495) (by decide) ?_
              refine a_sub (ls1 := [(0, Value.ref (ad 0)), (2, Value.ref (ad 162)), (7, vI x4), (13, vI x120), (14, vI x121), (15, vI x145), (16, vI 0), (17, vI (x124 + 1))]) [3, 4, 5, 6, 7, 2, 1, 0] rfl ?_
              exact hag495 x145 0 (x124 + 1) h
            · replace h := h.2.2.2 hq
              clear hq
              refine a_iconst (pc := 547) a dL_acts_547 ?_
              refine a_goto (pc := 548) a dL_acts_548 (tgt := 552) (by decide) ?_
              refine a_istore (pc := 552) a (ls1 := [(16, vI 1), (15, vI x145), (0, Value.ref (ad 0)), (2, Value.ref (ad 162)), (7, vI x4), (13, vI x120), (14, vI x121), (17, vI x124)]) dL_acts_552 (by decide) rfl ?_
              refine a_iinc (pc := 554) a (ls1 := [(17, vI (x124 + 1)), (16, vI 1), (15, vI x145), (0, Value.ref (ad 0)), (2, Value.ref (ad 162)), (7, vI x4), (13, vI x120), (14, vI x121)]) 7 dL_acts_554 rfl (by decide) rfl ?_
              refine a_goto (pc := 557) a dL_acts_557 (tgt := 495) (by decide) ?_
              refine a_sub (ls1 := [(0, Value.ref (ad 0)), (2, Value.ref (ad 162)), (7, vI x4), (13, vI x120), (14, vI x121), (15, vI x145), (16, vI 1), (17, vI (x124 + 1))]) [3, 4, 5, 6, 7, 2, 1, 0] rfl ?_
              exact hag495 x145 1 (x124 + 1) h
        · clear h
          intro jj525 hjj525 h
          refine a_icmp_ge (pc := 517) a h.1 h.2.1 dL_acts_517 (tgt := 524) (by decide) (fun hq => ?_) (fun hq => ?_)
          · replace h := h.2.2.1 hq
            clear hq
            refine a_iconst (pc := 524) a dL_acts_524 ?_
            refine a_sub (ls1 := [(0, Value.ref (ad 0)), (2, Value.ref (ad 162)), (7, vI x4), (13, vI x120), (14, vI x121), (16, vI x123), (17, vI x124)]) [0, 1, 2, 3, 4, 6, 7] rfl ?_
            refine a_wid 0 0 (by omega) (by omega) ?_
            exact hjj525 0 h
          · replace h := h.2.2.2 hq
            clear hq
            refine a_iconst (pc := 520) a dL_acts_520 ?_
            refine a_goto (pc := 521) a dL_acts_521 (tgt := 525) (by decide) ?_
            refine a_sub (ls1 := [(0, Value.ref (ad 0)), (2, Value.ref (ad 162)), (7, vI x4), (13, vI x120), (14, vI x121), (16, vI x123), (17, vI x124)]) [0, 1, 2, 3, 4, 6, 7] rfl ?_
            refine a_wid 0 0 (by omega) (by omega) ?_
            exact hjj525 1 h
    · replace h := h.2.2.2.2.2.2.2.2.2.2.2.1 hq
      refine a_tsIn (pc := 44) a 10 hq ⟨by decide, by decide⟩ dL_acts_44 (by decide) (by decide) rfl (tgt := 728) (by decide) ?_
      clear hq
      refine a_aload_n (pc := 728) a 3 dL_acts_728 rfl rfl ?_
      refine a_bipush (pc := 729) a dL_acts_729 (by decide) ?_
      refine a_iald (pc := 731) a (tw hinj w2) (by decide) (by decide) dL_acts_731 ?_
      refine g_wj0 742 0 0 [(0, Value.ref (ad 0)), (1, Value.ref (ad 161))] [] h ?_ ?_
      · clear h
        intro  h
        refine a_aload_n (pc := 742) a 0 dL_acts_742 rfl rfl ?_
        refine a_aload_n (pc := 743) a 1 dL_acts_743 rfl rfl ?_
        refine a_bipush (pc := 744) a dL_acts_744 (by decide) ?_
        refine a_iald (pc := 746) a (tw hinj w2) (by decide) (by decide) dL_acts_746 ?_
        refine a_cwi (pc := 747) a (As := [Value.ref (ad 0), vI (σ 161 9)]) (rest := []) (fun sz => c_L_drops hinj hl0  h sz) (vx_cwSW 2 hts (gl_S (GL_23 _ (by decide +kernel)) (GL_23 _ (by decide +kernel)) (GL_4 _ (by decide +kernel)) (GL_23 _ (by decide +kernel))) rfl rfl rfl (by decide +kernel) ⟨Nat.le_of_ble_eq_true rfl, Nat.le_of_ble_eq_true rfl⟩) rfl rfl (Nat.le_of_ble_eq_true rfl) ⟨Nat.le_of_ble_eq_true rfl, Nat.le_of_ble_eq_true rfl⟩ dL_acts_747 ?_
        clear h
        intro x151 s152 h
        refine a_ldc (pc := 750) a (n := (-100001)) w7 dL_acts_750 ?_
        refine a_icmp_ne (pc := 752) a h.1 ⟨by decide, by decide⟩ dL_acts_752 (tgt := 759) (by decide) (fun hq => ?_) (fun hq => ?_)
        · replace h := h.2.1 hq
          clear hq
          refine a_iconst (pc := 759) a dL_acts_759 ?_
          refine a_wid 6 36 (by omega) (by omega) ?_
          exact e_z (pc := 760) a hr (by decide) dL_acts_760 h
        · replace h := h.2.2 hq
          clear hq
          refine a_iconst (pc := 755) a dL_acts_755 ?_
          refine a_goto (pc := 756) a dL_acts_756 (tgt := 760) (by decide) ?_
          refine a_wid 6 36 (by omega) (by omega) ?_
          exact e_z (pc := 760) a hr (by decide) dL_acts_760 h
      · clear h
        intro jj742 hjj742 h
        refine a_if_eq (pc := 732) a h.1 dL_acts_732 (tgt := 742) (by decide) (fun hq => ?_) (fun hq => ?_)
        · replace h := h.2.1 hq
          clear hq
          refine a_sub (ls1 := [(0, Value.ref (ad 0)), (1, Value.ref (ad 161))]) [2, 3] rfl ?_
          refine a_wid 0 0 (by omega) (by omega) ?_
          exact hjj742  h
        · replace h := h.2.2 hq
          clear hq
          refine a_iload (pc := 735) a 7 dL_acts_735 rfl ?_
          refine a_iconst (pc := 737) a dL_acts_737 ?_
          refine a_irem (pc := 738) a dL_acts_738 h.1 (by decide) ?_
          replace h := h.2
          refine a_if_le (pc := 739) a h.1 dL_acts_739 (tgt := 761) (by decide) (fun hq => ?_) (fun hq => ?_)
          · replace h := h.2.1 hq
            clear hq
            refine a_aload_n (pc := 761) a 5 dL_acts_761 rfl rfl ?_
            refine a_iload (pc := 762) a 1 dL_acts_762 rfl ?_
            refine a_csv (pc := 764) a (As := [Value.ref (ad 163), vI x3]) (rest := []) (fun sz => c_L_closes hinj hl0  h sz) (va_cwS 2 hts (gl_S (GL_23 _ (by decide +kernel)) (GL_23 _ (by decide +kernel)) (GL_4 _ (by decide +kernel)) (GL_23 _ (by decide +kernel))) rfl rfl rfl (by decide +kernel) ⟨Nat.le_of_ble_eq_true rfl, Nat.le_of_ble_eq_true rfl⟩) rfl rfl (Nat.le_of_ble_eq_true rfl) ⟨Nat.le_of_ble_eq_true rfl, Nat.le_of_ble_eq_true rfl⟩ dL_acts_764 ?_
            clear h
            intro s147 h
            refine a_aload_n (pc := 767) a 3 dL_acts_767 rfl rfl ?_
            refine a_bipush (pc := 768) a dL_acts_768 (by decide) ?_
            refine a_dup2 (pc := 770) a rfl rfl dL_acts_770 ?_
            refine a_iald (pc := 771) a (tw hinj w2) (by decide) (by decide) dL_acts_771 ?_
            refine a_iconst (pc := 772) a dL_acts_772 ?_
            refine a_isub (pc := 773) a dL_acts_773 ?_
            refine a_iast (pc := 774) a (tw hinj w2) (by decide) (by decide) dL_acts_774 ?_
            refine a_nmS (fun s148 hx => ?_)
            replace h := h s148 hx
            clear hx
            refine a_aload_n (pc := 775) a 2 dL_acts_775 rfl rfl ?_
            refine a_iload (pc := 776) a 1 dL_acts_776 rfl ?_
            refine a_cwi (pc := 778) a (As := [Value.ref (ad 0), vI x3]) (rest := []) (fun sz => c_L_drops hinj hl0  h sz) (vx_cwSW 2 hts (gl_S (GL_23 _ (by decide +kernel)) (GL_23 _ (by decide +kernel)) (GL_4 _ (by decide +kernel)) (GL_23 _ (by decide +kernel))) rfl rfl rfl (by decide +kernel) ⟨Nat.le_of_ble_eq_true rfl, Nat.le_of_ble_eq_true rfl⟩) rfl rfl (Nat.le_of_ble_eq_true rfl) ⟨Nat.le_of_ble_eq_true rfl, Nat.le_of_ble_eq_true rfl⟩ dL_acts_778 ?_
            clear h
            intro x149 s150 h
            refine a_aload_n (pc := 781) a 3 dL_acts_781 rfl rfl ?_
            refine a_bipush (pc := 782) a dL_acts_782 (by decide) ?_
            refine a_iald (pc := 784) a (tw hinj w2) (by decide) (by decide) dL_acts_784 ?_
            refine a_icmp_ne (pc := 785) a h.1 h.2.1 dL_acts_785 (tgt := 792) (by decide) (fun hq => ?_) (fun hq => ?_)
            · replace h := h.2.2.1 hq
              clear hq
              refine a_iconst (pc := 792) a dL_acts_792 ?_
              refine a_wid 6 36 (by omega) (by omega) ?_
              exact e_z (pc := 793) a hr (by decide) dL_acts_793 h
            · replace h := h.2.2.2 hq
              clear hq
              refine a_iconst (pc := 788) a dL_acts_788 ?_
              refine a_goto (pc := 789) a dL_acts_789 (tgt := 793) (by decide) ?_
              refine a_wid 6 36 (by omega) (by omega) ?_
              exact e_z (pc := 793) a hr (by decide) dL_acts_793 h
          · replace h := h.2.2 hq
            clear hq
            refine a_sub (ls1 := [(0, Value.ref (ad 0)), (1, Value.ref (ad 161))]) [2, 3] rfl ?_
            refine a_wid 0 0 (by omega) (by omega) ?_
            exact hjj742  h
    · replace h := h.2.2.2.2.2.2.2.2.2.2.2.2.1 hq
      refine a_tsIn (pc := 44) a 11 hq ⟨by decide, by decide⟩ dL_acts_44 (by decide) (by decide) rfl (tgt := 794) (by decide) ?_
      clear hq
      refine a_aload_n (pc := 794) a 3 dL_acts_794 rfl rfl ?_
      refine a_bipush (pc := 795) a dL_acts_795 (by decide) ?_
      refine a_iald (pc := 797) a (tw hinj w2) (by decide) (by decide) dL_acts_797 ?_
      refine a_if_ne (pc := 798) a h.1 dL_acts_798 (tgt := 821) (by decide) (fun hq => ?_) (fun hq => ?_)
      · replace h := h.2.1 hq
        clear hq
        refine a_aload_n (pc := 821) a 5 dL_acts_821 rfl rfl ?_
        refine a_iconst (pc := 822) a dL_acts_822 ?_
        refine a_iload (pc := 823) a 1 dL_acts_823 rfl ?_
        refine a_imul (pc := 825) a dL_acts_825 ?_
        refine a_iconst (pc := 826) a dL_acts_826 ?_
        refine a_iadd (pc := 827) a dL_acts_827 ?_
        refine a_iald (pc := 828) a (tw hinj w4) (by decide) h.1 dL_acts_828 ?_
        replace h := h.2
        refine a_nm (fun x153 hx => ?_)
        replace h := h x153 hx
        clear hx
        refine a_istore (pc := 829) a (ls1 := [(17, vI x153), (7, vI x4), (6, vI x3), (0, Value.ref (ad 0)), (1, Value.ref (ad 161)), (2, Value.ref (ad 162)), (3, Value.ref (ad 163)), (4, vI p5), (5, vI x1)]) dL_acts_829 (by decide) rfl ?_
        refine a_aload_n (pc := 831) a 6 dL_acts_831 rfl rfl ?_
        refine a_iconst (pc := 832) a dL_acts_832 ?_
        refine a_iload (pc := 833) a 2 dL_acts_833 rfl ?_
        refine a_imul (pc := 835) a dL_acts_835 ?_
        refine a_iconst (pc := 836) a dL_acts_836 ?_
        refine a_iadd (pc := 837) a dL_acts_837 ?_
        refine a_iload (pc := 838) a 8 dL_acts_838 rfl ?_
        refine a_bipush (pc := 840) a dL_acts_840 (by decide) ?_
        refine a_idiv (pc := 842) a dL_acts_842 h.1 (by decide) ?_
        replace h := h.2
        refine a_bipush (pc := 843) a dL_acts_843 (by decide) ?_
        refine a_irem (pc := 845) a dL_acts_845 h.1 (by decide) ?_
        replace h := h.2
        refine a_iast (pc := 846) a (tw hinj w4) (by decide) h.1 dL_acts_846 ?_
        replace h := h.2
        refine a_nmS (fun s154 hx => ?_)
        replace h := h s154 hx
        clear hx
        refine a_aload_n (pc := 847) a 6 dL_acts_847 rfl rfl ?_
        refine a_iconst (pc := 848) a dL_acts_848 ?_
        refine a_iload (pc := 849) a 2 dL_acts_849 rfl ?_
        refine a_imul (pc := 851) a dL_acts_851 ?_
        refine a_iconst (pc := 852) a dL_acts_852 ?_
        refine a_iadd (pc := 853) a dL_acts_853 ?_
        refine a_iload (pc := 854) a 8 dL_acts_854 rfl ?_
        refine a_sipush (pc := 856) a dL_acts_856 (by decide) ?_
        refine a_idiv (pc := 859) a dL_acts_859 h.1 (by decide) ?_
        replace h := h.2
        refine a_bipush (pc := 860) a dL_acts_860 (by decide) ?_
        refine a_irem (pc := 862) a dL_acts_862 h.1 (by decide) ?_
        replace h := h.2
        refine a_iast (pc := 863) a (tw hinj w4) (by decide) h.1 dL_acts_863 ?_
        replace h := h.2
        refine a_nmS (fun s155 hx => ?_)
        replace h := h s155 hx
        clear hx
        refine a_aload_n (pc := 864) a 3 dL_acts_864 rfl rfl ?_
        refine a_iload (pc := 865) a 2 dL_acts_865 rfl ?_
        refine a_aload_n (pc := 867) a 6 dL_acts_867 rfl rfl ?_
        refine a_iconst (pc := 868) a dL_acts_868 ?_
        refine a_iload (pc := 869) a 2 dL_acts_869 rfl ?_
        refine a_imul (pc := 871) a dL_acts_871 ?_
        refine a_iconst (pc := 872) a dL_acts_872 ?_
        refine a_iadd (pc := 873) a dL_acts_873 ?_
        refine a_iald (pc := 874) a (tw hinj w4) (by decide) h.1 dL_acts_874 ?_
        replace h := h.2
        refine a_aload_n (pc := 875) a 6 dL_acts_875 rfl rfl ?_
        refine a_iconst (pc := 876) a dL_acts_876 ?_
        refine a_iload (pc := 877) a 2 dL_acts_877 rfl ?_
        refine a_imul (pc := 879) a dL_acts_879 ?_
        refine a_iconst (pc := 880) a dL_acts_880 ?_
        refine a_iadd (pc := 881) a dL_acts_881 ?_
        refine a_iald (pc := 882) a (tw hinj w4) (by decide) h.1 dL_acts_882 ?_
        replace h := h.2
        refine a_cwi (pc := 883) a (As := [Value.ref (ad 0), vI x3, vI (s155 163 ((5 * x3) + 1)), vI (s155 163 ((5 * x3) + 2))]) (rest := []) (fun sz => c_L_moves hinj hl0  h sz) (vx_cwSW 4 hts (gl_S (GL_23 _ (by decide +kernel)) (GL_23 _ (by decide +kernel)) (GL_4 _ (by decide +kernel)) (GL_23 _ (by decide +kernel))) rfl rfl rfl (by decide +kernel) ⟨Nat.le_of_ble_eq_true rfl, Nat.le_of_ble_eq_true rfl⟩) rfl rfl (Nat.le_of_ble_eq_true rfl) ⟨Nat.le_of_ble_eq_true rfl, Nat.le_of_ble_eq_true rfl⟩ dL_acts_883 ?_
        clear h
        intro x156 s157 h
        refine a_iload (pc := 886) a 0 dL_acts_886 rfl ?_
        refine a_icmp_ne (pc := 888) a h.1 h.2.1 dL_acts_888 (tgt := 895) (by decide) (fun hq => ?_) (fun hq => ?_)
        · replace h := h.2.2.1 hq
          clear hq
          refine a_iconst (pc := 895) a dL_acts_895 ?_
          refine a_wid 6 36 (by omega) (by omega) ?_
          exact e_z (pc := 896) a hr (by decide) dL_acts_896 h
        · replace h := h.2.2.2 hq
          clear hq
          refine a_iconst (pc := 891) a dL_acts_891 ?_
          refine a_goto (pc := 892) a dL_acts_892 (tgt := 896) (by decide) ?_
          refine a_wid 6 36 (by omega) (by omega) ?_
          exact e_z (pc := 896) a hr (by decide) dL_acts_896 h
      · replace h := h.2.2 hq
        clear hq
        refine a_aload_n (pc := 801) a 2 dL_acts_801 rfl rfl ?_
        refine a_iconst (pc := 802) a dL_acts_802 ?_
        refine a_sipush (pc := 803) a dL_acts_803 (by decide) ?_
        refine a_iconst (pc := 806) a dL_acts_806 ?_
        refine a_cwi (pc := 807) a (As := [Value.ref (ad 0), vI 0, vI 200, vI 0]) (rest := []) (fun sz => c_L_moves hinj hl0  h sz) (vx_cwSW 4 hts (gl_S (GL_23 _ (by decide +kernel)) (GL_23 _ (by decide +kernel)) (GL_4 _ (by decide +kernel)) (GL_23 _ (by decide +kernel))) rfl rfl rfl (by decide +kernel) ⟨Nat.le_of_ble_eq_true rfl, Nat.le_of_ble_eq_true rfl⟩) rfl rfl (Nat.le_of_ble_eq_true rfl) ⟨Nat.le_of_ble_eq_true rfl, Nat.le_of_ble_eq_true rfl⟩ dL_acts_807 ?_
        clear h
        intro x158 s159 h
        refine a_ldc (pc := 810) a (n := (-100001)) w7 dL_acts_810 ?_
        refine a_icmp_ne (pc := 812) a h.1 ⟨by decide, by decide⟩ dL_acts_812 (tgt := 819) (by decide) (fun hq => ?_) (fun hq => ?_)
        · replace h := h.2.1 hq
          clear hq
          refine a_iconst (pc := 819) a dL_acts_819 ?_
          refine a_wid 6 36 (by omega) (by omega) ?_
          exact e_z (pc := 820) a hr (by decide) dL_acts_820 h
        · replace h := h.2.2 hq
          clear hq
          refine a_iconst (pc := 815) a dL_acts_815 ?_
          refine a_goto (pc := 816) a dL_acts_816 (tgt := 820) (by decide) ?_
          refine a_wid 6 36 (by omega) (by omega) ?_
          exact e_z (pc := 820) a hr (by decide) dL_acts_820 h
    · have hr := h.1
      replace h := h.2.2.2.2.2.2.2.2.2.2.2.2.2 hq
      refine a_tsOut (pc := 44) a hr dL_acts_44 hq (tgt := 897) (by decide) ?_
      clear hq hr
      refine a_aload_n (pc := 897) a 3 dL_acts_897 rfl rfl ?_
      refine a_bipush (pc := 898) a dL_acts_898 (by decide) ?_
      refine a_iald (pc := 900) a (tw hinj w2) (by decide) (by decide) dL_acts_900 ?_
      refine a_bipush (pc := 901) a dL_acts_901 (by decide) ?_
      refine a_icmp_ne (pc := 903) a h.1 ⟨by decide, by decide⟩ dL_acts_903 (tgt := 929) (by decide) (fun hq => ?_) (fun hq => ?_)
      · replace h := h.2.1 hq
        clear hq
        refine a_iconst (pc := 929) a dL_acts_929 ?_
        refine a_aload_n (pc := 930) a 3 dL_acts_930 rfl rfl ?_
        refine a_bipush (pc := 931) a dL_acts_931 (by decide) ?_
        refine a_iald (pc := 933) a (tw hinj w2) (by decide) (by decide) dL_acts_933 ?_
        refine a_imul (pc := 934) a dL_acts_934 ?_
        refine a_nm (fun x160 hx => ?_)
        replace h := h x160 hx
        clear hx
        refine a_istore (pc := 935) a (ls1 := [(18, vI x160), (7, vI x4), (6, vI x3), (0, Value.ref (ad 0)), (1, Value.ref (ad 161)), (2, Value.ref (ad 162)), (3, Value.ref (ad 163)), (4, vI p5), (5, vI x1)]) dL_acts_935 (by decide) rfl ?_
        refine a_aload_n (pc := 937) a 6 dL_acts_937 rfl rfl ?_
        refine a_iload (pc := 938) a 0 dL_acts_938 rfl ?_
        refine a_iload (pc := 940) a 1 dL_acts_940 rfl ?_
        refine a_iast (pc := 942) a (tw hinj w4) (by decide) h.1 dL_acts_942 ?_
        replace h := h.2
        refine a_nmS (fun s161 hx => ?_)
        replace h := h s161 hx
        clear hx
        refine a_aload_n (pc := 943) a 6 dL_acts_943 rfl rfl ?_
        refine a_iload (pc := 944) a 0 dL_acts_944 rfl ?_
        refine a_iconst (pc := 946) a dL_acts_946 ?_
        refine a_iadd (pc := 947) a dL_acts_947 ?_
        refine a_iload (pc := 948) a 8 dL_acts_948 rfl ?_
        refine a_iconst (pc := 950) a dL_acts_950 ?_
        refine a_idiv (pc := 951) a dL_acts_951 h.1 (by decide) ?_
        replace h := h.2
        refine a_iload (pc := 952) a 8 dL_acts_952 rfl ?_
        refine a_iconst (pc := 954) a dL_acts_954 ?_
        refine a_irem (pc := 955) a dL_acts_955 h.1 (by decide) ?_
        replace h := h.2
        refine g_wj1 966 0 0 (fun x163 => [(0, Value.ref (ad 0)), (1, Value.ref (ad 161)), (3, Value.ref (ad 163)), (5, vI x1), (7, vI x4), (18, vI x160)]) (fun x163 => [vI x163, vI (x1 / 4), vI (x160 + 1), Value.ref (ad 163)]) h ?_ ?_
        · clear h
          intro x163 h
          refine a_irem (pc := 966) a dL_acts_966 h.1 h.2.1 ?_
          replace h := h.2.2
          refine a_iast (pc := 967) a (tw hinj w4) (by decide) h.1 dL_acts_967 ?_
          replace h := h.2
          refine a_nmS (fun s164 hx => ?_)
          replace h := h s164 hx
          clear hx
          refine a_aload_n (pc := 968) a 2 dL_acts_968 rfl rfl ?_
          refine a_iload (pc := 969) a 5 dL_acts_969 rfl ?_
          refine a_iconst (pc := 971) a dL_acts_971 ?_
          refine a_iadd (pc := 972) a dL_acts_972 ?_
          refine a_iload (pc := 973) a 3 dL_acts_973 rfl ?_
          refine a_sipush (pc := 975) a dL_acts_975 (by decide) ?_
          refine a_idiv (pc := 978) a dL_acts_978 h.1 (by decide) ?_
          replace h := h.2
          refine a_iload (pc := 979) a 3 dL_acts_979 rfl ?_
          refine a_iconst (pc := 981) a dL_acts_981 ?_
          refine a_irem (pc := 982) a dL_acts_982 h.1 (by decide) ?_
          replace h := h.2
          refine g_wj1 993 0 0 (fun x166 => [(0, Value.ref (ad 0)), (1, Value.ref (ad 161)), (3, Value.ref (ad 163)), (5, vI x1), (7, vI x4), (18, vI x160)]) (fun x166 => [vI x166, vI (x1 / 480), vI (x160 + 2), Value.ref (ad 163)]) h ?_ ?_
          · clear h
            intro x166 h
            refine a_irem (pc := 993) a dL_acts_993 h.1 h.2.1 ?_
            replace h := h.2.2
            refine a_iast (pc := 994) a (tw hinj w4) (by decide) h.1 dL_acts_994 ?_
            replace h := h.2
            refine a_nmS (fun s167 hx => ?_)
            replace h := h s167 hx
            clear hx
            refine a_aload_n (pc := 995) a 2 dL_acts_995 rfl rfl ?_
            refine a_iload (pc := 996) a 5 dL_acts_996 rfl ?_
            refine a_iconst (pc := 998) a dL_acts_998 ?_
            refine a_iadd (pc := 999) a dL_acts_999 ?_
            refine a_iload (pc := 1000) a 3 dL_acts_1000 rfl ?_
            refine a_bipush (pc := 1002) a dL_acts_1002 (by decide) ?_
            refine a_idiv (pc := 1004) a dL_acts_1004 h.1 (by decide) ?_
            replace h := h.2
            refine a_bipush (pc := 1005) a dL_acts_1005 (by decide) ?_
            refine a_irem (pc := 1007) a dL_acts_1007 h.1 (by decide) ?_
            replace h := h.2
            refine a_iast (pc := 1008) a (tw hinj w4) (by decide) h.1 dL_acts_1008 ?_
            replace h := h.2
            refine a_nmS (fun s168 hx => ?_)
            replace h := h s168 hx
            clear hx
            refine a_aload_n (pc := 1009) a 2 dL_acts_1009 rfl rfl ?_
            refine a_iload (pc := 1010) a 5 dL_acts_1010 rfl ?_
            refine a_iconst (pc := 1012) a dL_acts_1012 ?_
            refine a_iadd (pc := 1013) a dL_acts_1013 ?_
            refine a_iload (pc := 1014) a 3 dL_acts_1014 rfl ?_
            refine a_bipush (pc := 1016) a dL_acts_1016 (by decide) ?_
            refine a_irem (pc := 1018) a dL_acts_1018 h.1 (by decide) ?_
            replace h := h.2
            refine g_wj1 1034 0 0 (fun x170 => [(0, Value.ref (ad 0)), (1, Value.ref (ad 161)), (3, Value.ref (ad 163)), (7, vI x4), (18, vI x160)]) (fun x170 => [vI x170, vI (x160 + 4), Value.ref (ad 163)]) h ?_ ?_
            · clear h
              intro x170 h
              refine a_iast (pc := 1034) a (tw hinj w4) (by decide) h.1 dL_acts_1034 ?_
              replace h := h.2
              refine a_nmS (fun s171 hx => ?_)
              replace h := h s171 hx
              clear hx
              refine a_aload_n (pc := 1035) a 1 dL_acts_1035 rfl rfl ?_
              refine a_bipush (pc := 1036) a dL_acts_1036 (by decide) ?_
              refine a_dup2 (pc := 1038) a rfl rfl dL_acts_1038 ?_
              refine a_iald (pc := 1039) a (tw hinj w2) (by decide) (by decide) dL_acts_1039 ?_
              refine a_iconst (pc := 1040) a dL_acts_1040 ?_
              refine a_iadd (pc := 1041) a dL_acts_1041 ?_
              refine a_iast (pc := 1042) a (tw hinj w2) (by decide) (by decide) dL_acts_1042 ?_
              refine a_nmS (fun s172 hx => ?_)
              replace h := h s172 hx
              clear hx
              refine a_aload_n (pc := 1043) a 0 dL_acts_1043 rfl rfl ?_
              refine a_iload (pc := 1044) a 3 dL_acts_1044 rfl ?_
              refine a_aload_n (pc := 1046) a 2 dL_acts_1046 rfl rfl ?_
              refine a_iload (pc := 1047) a 4 dL_acts_1047 rfl ?_
              refine a_iconst (pc := 1049) a dL_acts_1049 ?_
              refine a_iadd (pc := 1050) a dL_acts_1050 ?_
              refine a_iald (pc := 1051) a (tw hinj w4) (by decide) h.1 dL_acts_1051 ?_
              replace h := h.2
              refine a_aload_n (pc := 1052) a 2 dL_acts_1052 rfl rfl ?_
              refine a_iload (pc := 1053) a 4 dL_acts_1053 rfl ?_
              refine a_iconst (pc := 1055) a dL_acts_1055 ?_
              refine a_iadd (pc := 1056) a dL_acts_1056 ?_
              refine a_iald (pc := 1057) a (tw hinj w4) (by decide) h.1 dL_acts_1057 ?_
              replace h := h.2
              refine a_aload_n (pc := 1058) a 2 dL_acts_1058 rfl rfl ?_
              refine a_iload (pc := 1059) a 4 dL_acts_1059 rfl ?_
              refine a_iconst (pc := 1061) a dL_acts_1061 ?_
              refine a_iadd (pc := 1062) a dL_acts_1062 ?_
              refine a_iald (pc := 1063) a (tw hinj w4) (by decide) h.1 dL_acts_1063 ?_
              replace h := h.2
              refine a_aload_n (pc := 1064) a 2 dL_acts_1064 rfl rfl ?_
              refine a_iload (pc := 1065) a 4 dL_acts_1065 rfl ?_
              refine a_iconst (pc := 1067) a dL_acts_1067 ?_
              refine a_iadd (pc := 1068) a dL_acts_1068 ?_
              refine a_iald (pc := 1069) a (tw hinj w4) (by decide) h.1 dL_acts_1069 ?_
              replace h := h.2
              refine a_cwi (pc := 1070) a (As := [Value.ref (ad 0), vI x4, vI (s172 163 (x160 + 1)), vI (s172 163 (x160 + 2)), vI (s172 163 (x160 + 3)), vI (s172 163 (x160 + 4))]) (rest := []) (fun sz => c_L_adds hinj hl0  h sz) (vx_cwSW 6 hts (gl_S (GL_23 _ (by decide +kernel)) (GL_23 _ (by decide +kernel)) (GL_4 _ (by decide +kernel)) (GL_23 _ (by decide +kernel))) rfl rfl rfl (by decide +kernel) ⟨Nat.le_of_ble_eq_true rfl, Nat.le_of_ble_eq_true rfl⟩) rfl rfl (Nat.le_of_ble_eq_true rfl) ⟨Nat.le_of_ble_eq_true rfl, Nat.le_of_ble_eq_true rfl⟩ dL_acts_1070 ?_
              clear h
              intro x173 s174 h
              refine a_aload_n (pc := 1073) a 1 dL_acts_1073 rfl rfl ?_
              refine a_bipush (pc := 1074) a dL_acts_1074 (by decide) ?_
              refine a_iald (pc := 1076) a (tw hinj w2) (by decide) (by decide) dL_acts_1076 ?_
              refine a_iconst (pc := 1077) a dL_acts_1077 ?_
              refine a_isub (pc := 1078) a dL_acts_1078 ?_
              refine a_icmp_ne (pc := 1079) a h.1 h.2.1 dL_acts_1079 (tgt := 1086) (by decide) (fun hq => ?_) (fun hq => ?_)
              · replace h := h.2.2.1 hq
                clear hq
                refine a_iconst (pc := 1086) a dL_acts_1086 ?_
                refine a_wid 6 36 (by omega) (by omega) ?_
                exact e_z (pc := 1087) a hr (by decide) dL_acts_1087 h
              · replace h := h.2.2.2 hq
                clear hq
                refine a_iconst (pc := 1082) a dL_acts_1082 ?_
                refine a_goto (pc := 1083) a dL_acts_1083 (tgt := 1087) (by decide) ?_
                refine a_wid 6 36 (by omega) (by omega) ?_
                exact e_z (pc := 1087) a hr (by decide) dL_acts_1087 h
            · clear h
              intro jj1034 hjj1034 h
              refine a_if_ne (pc := 1019) a h.1 dL_acts_1019 (tgt := 1033) (by decide) (fun hq => ?_) (fun hq => ?_)
              · replace h := h.2.1 hq
                clear hq
                refine a_iconst (pc := 1033) a dL_acts_1033 ?_
                refine a_sub (ls1 := [(0, Value.ref (ad 0)), (1, Value.ref (ad 161)), (3, Value.ref (ad 163)), (7, vI x4), (18, vI x160)]) [0, 1, 2, 4, 5] rfl ?_
                exact hjj1034 0 h
              · replace h := h.2.2 hq
                clear hq
                refine a_iload (pc := 1022) a 3 dL_acts_1022 rfl ?_
                refine a_bipush (pc := 1024) a dL_acts_1024 (by decide) ?_
                refine a_idiv (pc := 1026) a dL_acts_1026 h.1 (by decide) ?_
                replace h := h.2
                refine a_bipush (pc := 1027) a dL_acts_1027 (by decide) ?_
                refine a_irem (pc := 1029) a dL_acts_1029 h.1 (by decide) ?_
                replace h := h.2
                refine a_goto (pc := 1030) a dL_acts_1030 (tgt := 1034) (by decide) ?_
                refine a_sub (ls1 := [(0, Value.ref (ad 0)), (1, Value.ref (ad 161)), (3, Value.ref (ad 163)), (7, vI x4), (18, vI x160)]) [0, 1, 2, 4, 5] rfl ?_
                exact hjj1034 ((x1 / 7) % 6) h
          · clear h
            intro jj993 hjj993 h
            refine a_if_ne (pc := 983) a h.1 dL_acts_983 (tgt := 991) (by decide) (fun hq => ?_) (fun hq => ?_)
            · replace h := h.2.1 hq
              clear hq
              refine a_bipush (pc := 991) a dL_acts_991 (by decide) ?_
              exact hjj993 40 h
            · replace h := h.2.2 hq
              clear hq
              refine a_bipush (pc := 986) a dL_acts_986 (by decide) ?_
              refine a_goto (pc := 988) a dL_acts_988 (tgt := 993) (by decide) ?_
              exact hjj993 120 h
        · clear h
          intro jj966 hjj966 h
          refine a_if_ne (pc := 956) a h.1 dL_acts_956 (tgt := 964) (by decide) (fun hq => ?_) (fun hq => ?_)
          · replace h := h.2.1 hq
            clear hq
            refine a_bipush (pc := 964) a dL_acts_964 (by decide) ?_
            refine a_sub (ls1 := [(0, Value.ref (ad 0)), (1, Value.ref (ad 161)), (3, Value.ref (ad 163)), (5, vI x1), (7, vI x4), (18, vI x160)]) [3, 4, 6, 8, 1, 0] rfl ?_
            refine a_wid 0 0 (by omega) (by omega) ?_
            exact hjj966 40 h
          · replace h := h.2.2 hq
            clear hq
            refine a_bipush (pc := 959) a dL_acts_959 (by decide) ?_
            refine a_goto (pc := 961) a dL_acts_961 (tgt := 966) (by decide) ?_
            refine a_sub (ls1 := [(0, Value.ref (ad 0)), (1, Value.ref (ad 161)), (3, Value.ref (ad 163)), (5, vI x1), (7, vI x4), (18, vI x160)]) [3, 4, 6, 8, 1, 0] rfl ?_
            refine a_wid 0 0 (by omega) (by omega) ?_
            exact hjj966 120 h
      · replace h := h.2.2 hq
        clear hq
        refine a_aload_n (pc := 906) a 2 dL_acts_906 rfl rfl ?_
        refine a_iload (pc := 907) a 0 dL_acts_907 rfl ?_
        refine a_sipush (pc := 909) a dL_acts_909 (by decide) ?_
        refine a_iconst (pc := 912) a dL_acts_912 ?_
        refine a_iconst (pc := 913) a dL_acts_913 ?_
        refine a_iconst (pc := 914) a dL_acts_914 ?_
        refine a_cwi (pc := 915) a (As := [Value.ref (ad 0), vI x4, vI 200, vI 0, vI 0, vI 0]) (rest := []) (fun sz => c_L_adds hinj hl0  h sz) (vx_cwSW 6 hts (gl_S (GL_23 _ (by decide +kernel)) (GL_23 _ (by decide +kernel)) (GL_4 _ (by decide +kernel)) (GL_23 _ (by decide +kernel))) rfl rfl rfl (by decide +kernel) ⟨Nat.le_of_ble_eq_true rfl, Nat.le_of_ble_eq_true rfl⟩) rfl rfl (Nat.le_of_ble_eq_true rfl) ⟨Nat.le_of_ble_eq_true rfl, Nat.le_of_ble_eq_true rfl⟩ dL_acts_915 ?_
        clear h
        intro x175 s176 h
        refine a_ldc (pc := 918) a (n := (-100002)) w8 dL_acts_918 ?_
        refine a_icmp_ne (pc := 920) a h.1 ⟨by decide, by decide⟩ dL_acts_920 (tgt := 927) (by decide) (fun hq => ?_) (fun hq => ?_)
        · replace h := h.2.1 hq
          clear hq
          refine a_iconst (pc := 927) a dL_acts_927 ?_
          refine a_wid 6 36 (by omega) (by omega) ?_
          exact e_z (pc := 928) a hr (by decide) dL_acts_928 h
        · replace h := h.2.2 hq
          clear hq
          refine a_iconst (pc := 923) a dL_acts_923 ?_
          refine a_goto (pc := 924) a dL_acts_924 (tgt := 928) (by decide) ?_
          refine a_wid 6 36 (by omega) (by omega) ?_
          exact e_z (pc := 928) a hr (by decide) dL_acts_928 h
  · clear h
    intro jj29 hjj29 h
    refine a_if_ne (pc := 15) a h.1 dL_acts_15 (tgt := 22) (by decide) (fun hq => ?_) (fun hq => ?_)
    · replace h := h.2.1 hq
      clear hq
      refine a_iload (pc := 22) a 0 dL_acts_22 rfl ?_
      refine a_aload_n (pc := 24) a 2 dL_acts_24 rfl rfl ?_
      refine a_bipush (pc := 25) a dL_acts_25 (by decide) ?_
      refine a_iald (pc := 27) a (tw hinj w2) (by decide) (by decide) dL_acts_27 ?_
      refine a_irem (pc := 28) a dL_acts_28 h.1 h.2.1 ?_
      replace h := h.2.2
      refine a_sub (ls1 := [(0, Value.ref (ad 0)), (1, Value.ref (ad 161)), (2, Value.ref (ad 162)), (3, Value.ref (ad 163)), (4, vI p5), (5, vI x1)]) [1, 2, 3, 4, 5, 0] rfl ?_
      refine a_wid 0 0 (by omega) (by omega) ?_
      exact hjj29 (x1 % (σ 161 9)) h
    · replace h := h.2.2 hq
      clear hq
      refine a_iconst (pc := 18) a dL_acts_18 ?_
      refine a_goto (pc := 19) a dL_acts_19 (tgt := 29) (by decide) ?_
      refine a_sub (ls1 := [(0, Value.ref (ad 0)), (1, Value.ref (ad 161)), (2, Value.ref (ad 162)), (3, Value.ref (ad 163)), (4, vI p5), (5, vI x1)]) [1, 2, 3, 4, 5, 0] rfl ?_
      refine a_wid 0 0 (by omega) (by omega) ?_
      exact hjj29 0 h

set_option maxRecDepth 100000 in
set_option maxHeartbeats 4000000 in
theorem c_L_begins {l : Launch} {D : va_G} {X : XI} {ad : Nat → Nat} (hinj : adI ad) (hl0 : l.stackTraces = false)   {σ : St} {K : St → Prop} (h : f_L_begins σ K) (sz : Nat) : Met l yL_begins (WW (.code yL_begins cL_begins 3 none)) { frames := 0, cells := 0, slots := 0, locals := 0 } (va_Pc [Value.ref (ad 161), Value.ref (ad 162)] (WD D X ad σ sz)) (QV D X ad sz K) 0 0 (AA ad sz) := by
  refine aM_start (cc := cL_begins) (maxL := 3) (ret := none) (own := RL) [Value.ref (ad 161), Value.ref (ad 162)] (by decide) rfl rfl (Nat.le_of_ble_eq_true rfl) hinj hl0 ?_
  intro p e s m below meth c a hr hsz
  subst hsz
  have hts := a.1.2.2.2.2
  have w1 : tyc 161 (0, 15) := ⟨by decide, rfl⟩
  have w2 : tyc 162 (0, 32) := ⟨by decide, rfl⟩
  unfold f_L_begins at h
  refine a_sub (ls1 := [(0, Value.ref (ad 161)), (1, Value.ref (ad 162))]) [0, 1] rfl ?_
  refine a_aload_n (pc := 0) a 0 dL_begins_0 rfl rfl ?_
  refine a_iconst (pc := 1) a dL_begins_1 ?_
  refine a_iconst (pc := 2) a dL_begins_2 ?_
  refine a_iast (pc := 3) a (tw hinj w1) (by decide) (by decide) dL_begins_3 ?_
  refine a_nmS (fun s1 hx => ?_)
  replace h := h s1 hx
  clear hx
  refine a_aload_n (pc := 4) a 0 dL_begins_4 rfl rfl ?_
  refine a_iconst (pc := 5) a dL_begins_5 ?_
  refine a_iconst (pc := 6) a dL_begins_6 ?_
  refine a_iast (pc := 7) a (tw hinj w1) (by decide) (by decide) dL_begins_7 ?_
  refine a_nmS (fun s2 hx => ?_)
  replace h := h s2 hx
  clear hx
  refine a_aload_n (pc := 8) a 0 dL_begins_8 rfl rfl ?_
  refine a_iconst (pc := 9) a dL_begins_9 ?_
  refine a_bipush (pc := 10) a dL_begins_10 (by decide) ?_
  refine a_iast (pc := 12) a (tw hinj w1) (by decide) (by decide) dL_begins_12 ?_
  refine a_nmS (fun s3 hx => ?_)
  replace h := h s3 hx
  clear hx
  refine a_aload_n (pc := 13) a 0 dL_begins_13 rfl rfl ?_
  refine a_iconst (pc := 14) a dL_begins_14 ?_
  refine a_iconst (pc := 15) a dL_begins_15 ?_
  refine a_iast (pc := 16) a (tw hinj w1) (by decide) (by decide) dL_begins_16 ?_
  refine a_nmS (fun s4 hx => ?_)
  replace h := h s4 hx
  clear hx
  refine a_aload_n (pc := 17) a 0 dL_begins_17 rfl rfl ?_
  refine a_bipush (pc := 18) a dL_begins_18 (by decide) ?_
  refine a_bipush (pc := 20) a dL_begins_20 (by decide) ?_
  refine a_iast (pc := 22) a (tw hinj w1) (by decide) (by decide) dL_begins_22 ?_
  refine a_nmS (fun s5 hx => ?_)
  replace h := h s5 hx
  clear hx
  refine a_aload_n (pc := 23) a 0 dL_begins_23 rfl rfl ?_
  refine a_bipush (pc := 24) a dL_begins_24 (by decide) ?_
  refine a_bipush (pc := 26) a dL_begins_26 (by decide) ?_
  refine a_iast (pc := 28) a (tw hinj w1) (by decide) (by decide) dL_begins_28 ?_
  refine a_nmS (fun s6 hx => ?_)
  replace h := h s6 hx
  clear hx
  refine a_aload_n (pc := 29) a 0 dL_begins_29 rfl rfl ?_
  refine a_bipush (pc := 30) a dL_begins_30 (by decide) ?_
  refine a_iconst (pc := 32) a dL_begins_32 ?_
  refine a_iast (pc := 33) a (tw hinj w1) (by decide) (by decide) dL_begins_33 ?_
  refine a_nmS (fun s7 hx => ?_)
  replace h := h s7 hx
  clear hx
  refine a_iconst (pc := 34) a dL_begins_34 ?_
  refine a_istore_n (pc := 35) a (ls1 := [(2, vI 0), (0, Value.ref (ad 161)), (1, Value.ref (ad 162))]) dL_begins_35 rfl (by decide) rfl ?_
  refine a_sub (ls1 := [(1, Value.ref (ad 162)), (2, vI 0)]) [2, 0] rfl ?_
  refine g_wl1s (fun x8 => [(1, Value.ref (ad 162)), (2, vI x8)]) h ?_
  clear h
  intro x8 s9 ag36 hag36 h
  refine a_iload_n (pc := 36) a 1 dL_begins_36 rfl rfl ?_
  refine a_iconst (pc := 37) a dL_begins_37 ?_
  refine a_icmp_ge (pc := 38) a h.1 ⟨by decide, by decide⟩ dL_begins_38 (tgt := 63) (by decide) (fun hq => ?_) (fun hq => ?_)
  · replace h := h.2.1 hq
    clear hq
    exact e_v (pc := 63) a hr dL_begins_63 h
  · replace h := h.2.2 hq
    clear hq
    refine a_aload_n (pc := 41) a 0 dL_begins_41 rfl rfl ?_
    refine a_bipush (pc := 42) a dL_begins_42 (by decide) ?_
    refine a_iload_n (pc := 44) a 1 dL_begins_44 rfl rfl ?_
    refine a_imul (pc := 45) a dL_begins_45 ?_
    refine a_iload_n (pc := 46) a 1 dL_begins_46 rfl rfl ?_
    refine a_iast (pc := 47) a (tw hinj w2) (by decide) h.1 dL_begins_47 ?_
    replace h := h.2
    refine a_nmS (fun s10 hx => ?_)
    replace h := h s10 hx
    clear hx
    refine a_aload_n (pc := 48) a 0 dL_begins_48 rfl rfl ?_
    refine a_bipush (pc := 49) a dL_begins_49 (by decide) ?_
    refine a_iload_n (pc := 51) a 1 dL_begins_51 rfl rfl ?_
    refine a_imul (pc := 52) a dL_begins_52 ?_
    refine a_iconst (pc := 53) a dL_begins_53 ?_
    refine a_iadd (pc := 54) a dL_begins_54 ?_
    refine a_iconst (pc := 55) a dL_begins_55 ?_
    refine a_iast (pc := 56) a (tw hinj w2) (by decide) h.1 dL_begins_56 ?_
    replace h := h.2
    refine a_nmS (fun s11 hx => ?_)
    replace h := h s11 hx
    clear hx
    refine a_iinc (pc := 57) a (ls1 := [(2, vI (x8 + 1)), (1, Value.ref (ad 162))]) 1 dL_begins_57 rfl (by decide) rfl ?_
    refine a_goto (pc := 60) a dL_begins_60 (tgt := 36) (by decide) ?_
    refine a_sub (ls1 := [(1, Value.ref (ad 162)), (2, vI (x8 + 1))]) [1, 0] rfl ?_
    exact hag36 (x8 + 1) s11 h

set_option maxRecDepth 100000 in
set_option maxHeartbeats 4000000 in
theorem c_L_valueOf {l : Launch} {D : va_G} {X : XI} {ad : Nat → Nat} (hinj : adI ad) (hl0 : l.stackTraces = false) {p2 : Int}  {σ : St} {K : Int → St → Prop} (h : f_L_valueOf p2 σ K) (sz : Nat) : Met l yL_valueOf (WW (.codeWith yL_valueOf cL_valueOf 3 (some .int) [(0, 5, 6, 112)])) { frames := 8, cells := 1, slots := 6, locals := 168 } (va_Pc [Value.ref (ad 0), vI p2] (WD D X ad σ sz)) (QI D X ad sz K) 1 6 (AA ad sz) := by
  refine aw_start (cc := cL_valueOf) (maxL := 3) (ret := (some .int)) (own := RL) [Value.ref (ad 0), vI p2] (by decide) rfl rfl (Nat.le_of_ble_eq_true rfl) hinj hl0 ?_
  intro p e s m below meth c a hr htab hsz
  subst hsz
  have hts := a.1.2.2.2.2
  have w1 : tyc 0 (10, 0) := ⟨by decide, rfl⟩
  have w2 := hts (Cond.constant RL 104 (iI (-100002))) (List.mem_cons_of_mem _ (GL_13 _ (by decide +kernel)))
  have w3 := hts (Cond.classLink RL 112 "java/lang/IllegalArgumentException") (List.mem_cons_of_mem _ (GL_13 _ (by decide +kernel)))
  unfold f_L_valueOf at h
  refine a_sub (ls1 := [(0, Value.ref (ad 0)), (1, vI p2)]) [0, 1] rfl ?_
  refine a_aload_n (pc := 0) a 0 dL_valueOf_0 rfl rfl ?_
  refine a_iload_n (pc := 1) a 1 dL_valueOf_1 rfl rfl ?_
  refine a_xvi (pc := 2) a (As := [vI p2]) (rest := []) w1 vc6 (fun sz => c_X6_value hinj hl0  h sz) (cwV 1 hts (gl_V (GL_14 _ (by decide +kernel)) (GL_14 _ (by decide +kernel)) (GL_14 _ (by decide +kernel)) (GL_1 _ (by decide +kernel)) (GL_14 _ (by decide +kernel))) rfl rfl rfl (by decide +kernel) ⟨Nat.le_of_ble_eq_true rfl, Nat.le_of_ble_eq_true rfl⟩) rfl rfl (Nat.le_of_ble_eq_true rfl) ⟨Nat.le_of_ble_eq_true rfl, Nat.le_of_ble_eq_true rfl⟩ dL_valueOf_2 ?_ ?_
  · intro E cx ce q9 s9 H1 locs1 la hk hE hP hS hl h1 h2 h3
    clear h
    obtain ⟨k2, kc⟩ := hk
    have h := k2 kc
    subst kc
    subst hE
    refine x_catch (pc := 2) a [] ⟨0, 5, 6, 112⟩ [] htab (fun z hz => nomatch hz) (by decide) (by decide) w3 (va_Nw.use rfl (a.2.2.2.1.2.2.2.2.1 _ (by decide))) h1 h2 h3 hP hS hl ?_
    refine a_astore_n (pc := 6) a (ls1 := [(2, Value.ref q9), (0, Value.ref (ad 0)), (1, vI p2)]) dL_valueOf_6 rfl (by decide) rfl ?_
    refine a_ldc (pc := 7) a (n := (-100002)) w2 dL_valueOf_7 ?_
    refine a_wid 1 6 (by omega) (by omega) ?_
    exact e_i (pc := 9) a hr dL_valueOf_9 h
  clear h
  intro x1 s2 h
  refine a_wid 1 6 (by omega) (by omega) ?_
  exact e_i (pc := 5) a hr dL_valueOf_5 h

set_option maxRecDepth 100000 in
set_option maxHeartbeats 4000000 in
theorem c_L_signOf {l : Launch} {D : va_G} {X : XI} {ad : Nat → Nat} (hinj : adI ad) (hl0 : l.stackTraces = false) {p2 : Int} {p3 : Int}  {σ : St} {K : Int → St → Prop} (h : f_L_signOf p2 p3 σ K) (sz : Nat) : Met l yL_signOf (WW (.codeWith yL_signOf cL_signOf 4 (some .int) [(0, 6, 7, 110), (0, 6, 11, 112)])) { frames := 8, cells := 2, slots := 12, locals := 169 } (va_Pc [Value.ref (ad 0), vI p2, vI p3] (WD D X ad σ sz)) (QI D X ad sz K) 2 12 (AA ad sz) := by
  refine aw_start (cc := cL_signOf) (maxL := 4) (ret := (some .int)) (own := RL) [Value.ref (ad 0), vI p2, vI p3] (by decide) rfl rfl (Nat.le_of_ble_eq_true rfl) hinj hl0 ?_
  intro p e s m below meth c a hr htab hsz
  subst hsz
  have hts := a.1.2.2.2.2
  have w1 : tyc 0 (10, 0) := ⟨by decide, rfl⟩
  have w2 := hts (Cond.constant RL 93 (iI (-100001))) (List.mem_cons_of_mem _ (GL_5 _ (by decide +kernel)))
  have w3 := hts (Cond.classLink RL 110 "java/lang/IndexOutOfBoundsException") (List.mem_cons_of_mem _ (GL_16 _ (by decide +kernel)))
  have w4 := hts (Cond.classLink RL 112 "java/lang/IllegalArgumentException") (List.mem_cons_of_mem _ (GL_13 _ (by decide +kernel)))
  have w5 := hts (Cond.constant RL 104 (iI (-100002))) (List.mem_cons_of_mem _ (GL_13 _ (by decide +kernel)))
  unfold f_L_signOf at h
  refine a_sub (ls1 := [(0, Value.ref (ad 0)), (1, vI p2), (2, vI p3)]) [0, 1, 2] rfl ?_
  refine a_aload_n (pc := 0) a 0 dL_signOf_0 rfl rfl ?_
  refine a_iload_n (pc := 1) a 1 dL_signOf_1 rfl rfl ?_
  refine a_iload_n (pc := 2) a 2 dL_signOf_2 rfl rfl ?_
  refine a_xvi (pc := 3) a (As := [vI p2, vI p3]) (rest := []) w1 vc6 (fun sz => c_X6_sign hinj hl0  h sz) (cwV 2 hts (gl_V (GL_16 _ (by decide +kernel)) (GL_16 _ (by decide +kernel)) (GL_16 _ (by decide +kernel)) (GL_1 _ (by decide +kernel)) (GL_16 _ (by decide +kernel))) rfl rfl rfl (by decide +kernel) ⟨Nat.le_of_ble_eq_true rfl, Nat.le_of_ble_eq_true rfl⟩) rfl rfl (Nat.le_of_ble_eq_true rfl) ⟨Nat.le_of_ble_eq_true rfl, Nat.le_of_ble_eq_true rfl⟩ dL_signOf_3 ?_ ?_
  · intro E cx ce q9 s9 H1 locs1 la hk hE hP hS hl h1 h2 h3
    clear h
    obtain ⟨k1, k2, kc⟩ := hk
    rcases kc with kc | kc
    · have h := k1 kc
      subst kc
      subst hE
      refine x_catch (pc := 3) a [] ⟨0, 6, 7, 110⟩ [⟨0, 6, 11, 112⟩] htab (fun z hz => nomatch hz) (by decide) (by decide) w3 (va_Nw.use rfl (a.2.2.2.1.2.2.2.2.1 _ (by decide))) h1 h2 h3 hP hS hl ?_
      refine a_astore_n (pc := 7) a (ls1 := [(3, Value.ref q9), (0, Value.ref (ad 0)), (1, vI p2), (2, vI p3)]) dL_signOf_7 rfl (by decide) rfl ?_
      refine a_ldc (pc := 8) a (n := (-100001)) w2 dL_signOf_8 ?_
      refine a_wid 2 12 (by omega) (by omega) ?_
      exact e_i (pc := 10) a hr dL_signOf_10 h
    · have h := k2 kc
      subst kc
      subst hE
      refine x_catch (pc := 3) a [⟨0, 6, 7, 110⟩] ⟨0, 6, 11, 112⟩ [] htab (fun z hz => by rw [List.mem_singleton.mp hz]; exact Or.inr ⟨by decide, _, w3, a.2.2.2.1.2.2.2.2.2.2 _ (by decide) _ (by decide) (by decide)⟩) (by decide) (by decide) w4 (va_Nw.use rfl (a.2.2.2.1.2.2.2.2.1 _ (by decide))) h1 h2 h3 hP hS hl ?_
      refine a_astore_n (pc := 11) a (ls1 := [(3, Value.ref q9), (0, Value.ref (ad 0)), (1, vI p2), (2, vI p3)]) dL_signOf_11 rfl (by decide) rfl ?_
      refine a_ldc (pc := 12) a (n := (-100002)) w5 dL_signOf_12 ?_
      refine a_wid 2 12 (by omega) (by omega) ?_
      exact e_i (pc := 14) a hr dL_signOf_14 h
  clear h
  intro x1 s2 h
  refine a_wid 2 12 (by omega) (by omega) ?_
  exact e_i (pc := 6) a hr dL_signOf_6 h

set_option maxRecDepth 100000 in
set_option maxHeartbeats 4000000 in
theorem c_L_kindOf {l : Launch} {D : va_G} {X : XI} {ad : Nat → Nat} (hinj : adI ad) (hl0 : l.stackTraces = false) {p2 : Int} {p3 : Int}  {σ : St} {K : Int → St → Prop} (h : f_L_kindOf p2 p3 σ K) (sz : Nat) : Met l yL_kindOf (WW (.codeWith yL_kindOf cL_kindOf 4 (some .int) [(0, 6, 7, 110), (0, 6, 11, 112)])) { frames := 8, cells := 2, slots := 12, locals := 169 } (va_Pc [Value.ref (ad 0), vI p2, vI p3] (WD D X ad σ sz)) (QI D X ad sz K) 2 12 (AA ad sz) := by
  refine aw_start (cc := cL_kindOf) (maxL := 4) (ret := (some .int)) (own := RL) [Value.ref (ad 0), vI p2, vI p3] (by decide) rfl rfl (Nat.le_of_ble_eq_true rfl) hinj hl0 ?_
  intro p e s m below meth c a hr htab hsz
  subst hsz
  have hts := a.1.2.2.2.2
  have w1 : tyc 0 (10, 0) := ⟨by decide, rfl⟩
  have w2 := hts (Cond.constant RL 93 (iI (-100001))) (List.mem_cons_of_mem _ (GL_5 _ (by decide +kernel)))
  have w3 := hts (Cond.classLink RL 110 "java/lang/IndexOutOfBoundsException") (List.mem_cons_of_mem _ (GL_16 _ (by decide +kernel)))
  have w4 := hts (Cond.classLink RL 112 "java/lang/IllegalArgumentException") (List.mem_cons_of_mem _ (GL_13 _ (by decide +kernel)))
  have w5 := hts (Cond.constant RL 104 (iI (-100002))) (List.mem_cons_of_mem _ (GL_13 _ (by decide +kernel)))
  unfold f_L_kindOf at h
  refine a_sub (ls1 := [(0, Value.ref (ad 0)), (1, vI p2), (2, vI p3)]) [0, 1, 2] rfl ?_
  refine a_aload_n (pc := 0) a 0 dL_kindOf_0 rfl rfl ?_
  refine a_iload_n (pc := 1) a 1 dL_kindOf_1 rfl rfl ?_
  refine a_iload_n (pc := 2) a 2 dL_kindOf_2 rfl rfl ?_
  refine a_xvi (pc := 3) a (As := [vI p2, vI p3]) (rest := []) w1 vc6 (fun sz => c_X6_kind hinj hl0  h sz) (cwV 2 hts (gl_V (GL_18 _ (by decide +kernel)) (GL_18 _ (by decide +kernel)) (GL_18 _ (by decide +kernel)) (GL_1 _ (by decide +kernel)) (GL_18 _ (by decide +kernel))) rfl rfl rfl (by decide +kernel) ⟨Nat.le_of_ble_eq_true rfl, Nat.le_of_ble_eq_true rfl⟩) rfl rfl (Nat.le_of_ble_eq_true rfl) ⟨Nat.le_of_ble_eq_true rfl, Nat.le_of_ble_eq_true rfl⟩ dL_kindOf_3 ?_ ?_
  · intro E cx ce q9 s9 H1 locs1 la hk hE hP hS hl h1 h2 h3
    clear h
    obtain ⟨k1, k2, kc⟩ := hk
    rcases kc with kc | kc
    · have h := k1 kc
      subst kc
      subst hE
      refine x_catch (pc := 3) a [] ⟨0, 6, 7, 110⟩ [⟨0, 6, 11, 112⟩] htab (fun z hz => nomatch hz) (by decide) (by decide) w3 (va_Nw.use rfl (a.2.2.2.1.2.2.2.2.1 _ (by decide))) h1 h2 h3 hP hS hl ?_
      refine a_astore_n (pc := 7) a (ls1 := [(3, Value.ref q9), (0, Value.ref (ad 0)), (1, vI p2), (2, vI p3)]) dL_kindOf_7 rfl (by decide) rfl ?_
      refine a_ldc (pc := 8) a (n := (-100001)) w2 dL_kindOf_8 ?_
      refine a_wid 2 12 (by omega) (by omega) ?_
      exact e_i (pc := 10) a hr dL_kindOf_10 h
    · have h := k2 kc
      subst kc
      subst hE
      refine x_catch (pc := 3) a [⟨0, 6, 7, 110⟩] ⟨0, 6, 11, 112⟩ [] htab (fun z hz => by rw [List.mem_singleton.mp hz]; exact Or.inr ⟨by decide, _, w3, a.2.2.2.1.2.2.2.2.2.2 _ (by decide) _ (by decide) (by decide)⟩) (by decide) (by decide) w4 (va_Nw.use rfl (a.2.2.2.1.2.2.2.2.1 _ (by decide))) h1 h2 h3 hP hS hl ?_
      refine a_astore_n (pc := 11) a (ls1 := [(3, Value.ref q9), (0, Value.ref (ad 0)), (1, vI p2), (2, vI p3)]) dL_kindOf_11 rfl (by decide) rfl ?_
      refine a_ldc (pc := 12) a (n := (-100002)) w5 dL_kindOf_12 ?_
      refine a_wid 2 12 (by omega) (by omega) ?_
      exact e_i (pc := 14) a hr dL_kindOf_14 h
  clear h
  intro x1 s2 h
  refine a_wid 2 12 (by omega) (by omega) ?_
  exact e_i (pc := 6) a hr dL_kindOf_6 h

set_option maxRecDepth 100000 in
set_option maxHeartbeats 4000000 in
theorem c_L_lineOf {l : Launch} {D : va_G} {X : XI} {ad : Nat → Nat} (hinj : adI ad) (hl0 : l.stackTraces = false) {p2 : Int} {p3 : Int}  {σ : St} {K : Int → St → Prop} (h : f_L_lineOf p2 p3 σ K) (sz : Nat) : Met l yL_lineOf (WW (.codeWith yL_lineOf cL_lineOf 4 (some .int) [(0, 6, 7, 110), (0, 6, 11, 112)])) { frames := 8, cells := 1, slots := 6, locals := 169 } (va_Pc [Value.ref (ad 0), vI p2, vI p3] (WD D X ad σ sz)) (QI D X ad sz K) 1 6 (AA ad sz) := by
  refine aw_start (cc := cL_lineOf) (maxL := 4) (ret := (some .int)) (own := RL) [Value.ref (ad 0), vI p2, vI p3] (by decide) rfl rfl (Nat.le_of_ble_eq_true rfl) hinj hl0 ?_
  intro p e s m below meth c a hr htab hsz
  subst hsz
  have hts := a.1.2.2.2.2
  have w1 : tyc 0 (10, 0) := ⟨by decide, rfl⟩
  have w2 := hts (Cond.constant RL 93 (iI (-100001))) (List.mem_cons_of_mem _ (GL_5 _ (by decide +kernel)))
  have w3 := hts (Cond.classLink RL 110 "java/lang/IndexOutOfBoundsException") (List.mem_cons_of_mem _ (GL_16 _ (by decide +kernel)))
  have w4 := hts (Cond.classLink RL 112 "java/lang/IllegalArgumentException") (List.mem_cons_of_mem _ (GL_13 _ (by decide +kernel)))
  have w5 := hts (Cond.constant RL 104 (iI (-100002))) (List.mem_cons_of_mem _ (GL_13 _ (by decide +kernel)))
  unfold f_L_lineOf at h
  refine a_sub (ls1 := [(0, Value.ref (ad 0)), (1, vI p2), (2, vI p3)]) [0, 1, 2] rfl ?_
  refine a_aload_n (pc := 0) a 0 dL_lineOf_0 rfl rfl ?_
  refine a_iload_n (pc := 1) a 1 dL_lineOf_1 rfl rfl ?_
  refine a_iload_n (pc := 2) a 2 dL_lineOf_2 rfl rfl ?_
  refine a_xvi (pc := 3) a (As := [vI p2, vI p3]) (rest := []) w1 vc6 (fun sz => c_X6_line hinj hl0  h sz) (cwV 2 hts (gl_V (GL_16 _ (by decide +kernel)) (GL_16 _ (by decide +kernel)) (GL_16 _ (by decide +kernel)) (GL_1 _ (by decide +kernel)) (GL_16 _ (by decide +kernel))) rfl rfl rfl (by decide +kernel) ⟨Nat.le_of_ble_eq_true rfl, Nat.le_of_ble_eq_true rfl⟩) rfl rfl (Nat.le_of_ble_eq_true rfl) ⟨Nat.le_of_ble_eq_true rfl, Nat.le_of_ble_eq_true rfl⟩ dL_lineOf_3 ?_ ?_
  · intro E cx ce q9 s9 H1 locs1 la hk hE hP hS hl h1 h2 h3
    clear h
    obtain ⟨k1, k2, kc⟩ := hk
    rcases kc with kc | kc
    · have h := k1 kc
      subst kc
      subst hE
      refine x_catch (pc := 3) a [] ⟨0, 6, 7, 110⟩ [⟨0, 6, 11, 112⟩] htab (fun z hz => nomatch hz) (by decide) (by decide) w3 (va_Nw.use rfl (a.2.2.2.1.2.2.2.2.1 _ (by decide))) h1 h2 h3 hP hS hl ?_
      refine a_astore_n (pc := 7) a (ls1 := [(3, Value.ref q9), (0, Value.ref (ad 0)), (1, vI p2), (2, vI p3)]) dL_lineOf_7 rfl (by decide) rfl ?_
      refine a_ldc (pc := 8) a (n := (-100001)) w2 dL_lineOf_8 ?_
      refine a_wid 1 6 (by omega) (by omega) ?_
      exact e_i (pc := 10) a hr dL_lineOf_10 h
    · have h := k2 kc
      subst kc
      subst hE
      refine x_catch (pc := 3) a [⟨0, 6, 7, 110⟩] ⟨0, 6, 11, 112⟩ [] htab (fun z hz => by rw [List.mem_singleton.mp hz]; exact Or.inr ⟨by decide, _, w3, a.2.2.2.1.2.2.2.2.2.2 _ (by decide) _ (by decide) (by decide)⟩) (by decide) (by decide) w4 (va_Nw.use rfl (a.2.2.2.1.2.2.2.2.1 _ (by decide))) h1 h2 h3 hP hS hl ?_
      refine a_astore_n (pc := 11) a (ls1 := [(3, Value.ref q9), (0, Value.ref (ad 0)), (1, vI p2), (2, vI p3)]) dL_lineOf_11 rfl (by decide) rfl ?_
      refine a_ldc (pc := 12) a (n := (-100002)) w5 dL_lineOf_12 ?_
      refine a_wid 1 6 (by omega) (by omega) ?_
      exact e_i (pc := 14) a hr dL_lineOf_14 h
  clear h
  intro x1 s2 h
  refine a_wid 1 6 (by omega) (by omega) ?_
  exact e_i (pc := 6) a hr dL_lineOf_6 h

set_option maxRecDepth 100000 in
set_option maxHeartbeats 4000000 in
theorem c_L_boxOf {l : Launch} {D : va_G} {X : XI} {ad : Nat → Nat} (hinj : adI ad) (hl0 : l.stackTraces = false) {p2 : Int}  {σ : St} {K : Int → St → Prop} (h : f_L_boxOf p2 σ K) (sz : Nat) : Met l yL_boxOf (WW (.codeWith yL_boxOf cL_boxOf 3 (some .int) [(0, 5, 6, 112)])) { frames := 8, cells := 1, slots := 6, locals := 168 } (va_Pc [Value.ref (ad 0), vI p2] (WD D X ad σ sz)) (QI D X ad sz K) 1 6 (AA ad sz) := by
  refine aw_start (cc := cL_boxOf) (maxL := 3) (ret := (some .int)) (own := RL) [Value.ref (ad 0), vI p2] (by decide) rfl rfl (Nat.le_of_ble_eq_true rfl) hinj hl0 ?_
  intro p e s m below meth c a hr htab hsz
  subst hsz
  have hts := a.1.2.2.2.2
  have w1 : tyc 0 (10, 0) := ⟨by decide, rfl⟩
  have w2 := hts (Cond.constant RL 104 (iI (-100002))) (List.mem_cons_of_mem _ (GL_13 _ (by decide +kernel)))
  have w3 := hts (Cond.classLink RL 112 "java/lang/IllegalArgumentException") (List.mem_cons_of_mem _ (GL_13 _ (by decide +kernel)))
  unfold f_L_boxOf at h
  refine a_sub (ls1 := [(0, Value.ref (ad 0)), (1, vI p2)]) [0, 1] rfl ?_
  refine a_aload_n (pc := 0) a 0 dL_boxOf_0 rfl rfl ?_
  refine a_iload_n (pc := 1) a 1 dL_boxOf_1 rfl rfl ?_
  refine a_xvi (pc := 2) a (As := [vI p2]) (rest := []) w1 vc6 (fun sz => c_X6_box hinj hl0  h sz) (cwV 1 hts (gl_V (GL_15 _ (by decide +kernel)) (GL_15 _ (by decide +kernel)) (GL_15 _ (by decide +kernel)) (GL_1 _ (by decide +kernel)) (GL_15 _ (by decide +kernel))) rfl rfl rfl (by decide +kernel) ⟨Nat.le_of_ble_eq_true rfl, Nat.le_of_ble_eq_true rfl⟩) rfl rfl (Nat.le_of_ble_eq_true rfl) ⟨Nat.le_of_ble_eq_true rfl, Nat.le_of_ble_eq_true rfl⟩ dL_boxOf_2 ?_ ?_
  · intro E cx ce q9 s9 H1 locs1 la hk hE hP hS hl h1 h2 h3
    clear h
    obtain ⟨k2, kc⟩ := hk
    have h := k2 kc
    subst kc
    subst hE
    refine x_catch (pc := 2) a [] ⟨0, 5, 6, 112⟩ [] htab (fun z hz => nomatch hz) (by decide) (by decide) w3 (va_Nw.use rfl (a.2.2.2.1.2.2.2.2.1 _ (by decide))) h1 h2 h3 hP hS hl ?_
    refine a_astore_n (pc := 6) a (ls1 := [(2, Value.ref q9), (0, Value.ref (ad 0)), (1, vI p2)]) dL_boxOf_6 rfl (by decide) rfl ?_
    refine a_ldc (pc := 7) a (n := (-100002)) w2 dL_boxOf_7 ?_
    refine a_wid 1 6 (by omega) (by omega) ?_
    exact e_i (pc := 9) a hr dL_boxOf_9 h
  clear h
  intro x1 s2 h
  refine a_wid 1 6 (by omega) (by omega) ?_
  exact e_i (pc := 5) a hr dL_boxOf_5 h

set_option maxRecDepth 100000 in
set_option maxHeartbeats 4000000 in
theorem c_L_roundsOf {l : Launch} {D : va_G} {X : XI} {ad : Nat → Nat} (hinj : adI ad) (hl0 : l.stackTraces = false) {p2 : Int}  {σ : St} {K : Int → St → Prop} (h : f_L_roundsOf p2 σ K) (sz : Nat) : Met l yL_roundsOf (WW (.codeWith yL_roundsOf cL_roundsOf 3 (some .int) [(0, 5, 6, 112)])) { frames := 8, cells := 1, slots := 6, locals := 168 } (va_Pc [Value.ref (ad 0), vI p2] (WD D X ad σ sz)) (QI D X ad sz K) 1 6 (AA ad sz) := by
  refine aw_start (cc := cL_roundsOf) (maxL := 3) (ret := (some .int)) (own := RL) [Value.ref (ad 0), vI p2] (by decide) rfl rfl (Nat.le_of_ble_eq_true rfl) hinj hl0 ?_
  intro p e s m below meth c a hr htab hsz
  subst hsz
  have hts := a.1.2.2.2.2
  have w1 : tyc 0 (10, 0) := ⟨by decide, rfl⟩
  have w2 := hts (Cond.constant RL 104 (iI (-100002))) (List.mem_cons_of_mem _ (GL_13 _ (by decide +kernel)))
  have w3 := hts (Cond.classLink RL 112 "java/lang/IllegalArgumentException") (List.mem_cons_of_mem _ (GL_13 _ (by decide +kernel)))
  unfold f_L_roundsOf at h
  refine a_sub (ls1 := [(0, Value.ref (ad 0)), (1, vI p2)]) [0, 1] rfl ?_
  refine a_aload_n (pc := 0) a 0 dL_roundsOf_0 rfl rfl ?_
  refine a_iload_n (pc := 1) a 1 dL_roundsOf_1 rfl rfl ?_
  refine a_xvi (pc := 2) a (As := [vI p2]) (rest := []) w1 vc6 (fun sz => c_X6_rounds hinj hl0  h sz) (cwV 1 hts (gl_V (GL_13 _ (by decide +kernel)) (GL_13 _ (by decide +kernel)) (GL_13 _ (by decide +kernel)) (GL_1 _ (by decide +kernel)) (GL_13 _ (by decide +kernel))) rfl rfl rfl (by decide +kernel) ⟨Nat.le_of_ble_eq_true rfl, Nat.le_of_ble_eq_true rfl⟩) rfl rfl (Nat.le_of_ble_eq_true rfl) ⟨Nat.le_of_ble_eq_true rfl, Nat.le_of_ble_eq_true rfl⟩ dL_roundsOf_2 ?_ ?_
  · intro E cx ce q9 s9 H1 locs1 la hk hE hP hS hl h1 h2 h3
    clear h
    obtain ⟨k2, kc⟩ := hk
    have h := k2 kc
    subst kc
    subst hE
    refine x_catch (pc := 2) a [] ⟨0, 5, 6, 112⟩ [] htab (fun z hz => nomatch hz) (by decide) (by decide) w3 (va_Nw.use rfl (a.2.2.2.1.2.2.2.2.1 _ (by decide))) h1 h2 h3 hP hS hl ?_
    refine a_astore_n (pc := 6) a (ls1 := [(2, Value.ref q9), (0, Value.ref (ad 0)), (1, vI p2)]) dL_roundsOf_6 rfl (by decide) rfl ?_
    refine a_ldc (pc := 7) a (n := (-100002)) w2 dL_roundsOf_7 ?_
    refine a_wid 1 6 (by omega) (by omega) ?_
    exact e_i (pc := 9) a hr dL_roundsOf_9 h
  clear h
  intro x1 s2 h
  refine a_wid 1 6 (by omega) (by omega) ?_
  exact e_i (pc := 5) a hr dL_roundsOf_5 h

set_option maxRecDepth 100000 in
set_option maxHeartbeats 4000000 in
theorem c_L_stands {l : Launch} {D : va_G} {X : XI} {ad : Nat → Nat} (hinj : adI ad) (hl0 : l.stackTraces = false) {p4 : Int} {p5 : Int}  {σ : St} {K : Int → Prop} (h : f_L_stands p4 p5 σ K) (sz : Nat) : Met l yL_stands (WW (.code yL_stands cL_stands 10 (some .boolean))) { frames := 1, cells := 0, slots := 0, locals := 24 } (va_Pc [Value.ref (ad 162), Value.ref (ad 163), Value.ref (ad 164), vI p4, vI p5] (WD D X ad σ sz)) (QI D X ad sz (fun r τ => τ = σ ∧ K r)) 0 0 (AA ad sz) := by
  refine aM_start (cc := cL_stands) (maxL := 10) (ret := (some .boolean)) (own := RL) [Value.ref (ad 162), Value.ref (ad 163), Value.ref (ad 164), vI p4, vI p5] (by decide) rfl rfl (Nat.le_of_ble_eq_true rfl) hinj hl0 ?_
  intro p e s m below meth c a hr hsz
  subst hsz
  have hts := a.1.2.2.2.2
  have w1 : tyc 162 (0, 32) := ⟨by decide, rfl⟩
  have w2 : tyc 163 (0, 60) := ⟨by decide, rfl⟩
  have w3 : tyc 164 (0, 64) := ⟨by decide, rfl⟩
  unfold f_L_stands at h
  refine a_sub (ls1 := [(0, Value.ref (ad 162)), (1, Value.ref (ad 163)), (2, Value.ref (ad 164)), (3, vI p4), (4, vI p5)]) [0, 1, 2, 3, 4] rfl ?_
  refine a_aload_n (pc := 0) a 2 dL_stands_0 rfl rfl ?_
  refine a_bipush (pc := 1) a dL_stands_1 (by decide) ?_
  refine a_iload_n (pc := 3) a 3 dL_stands_3 rfl rfl ?_
  refine a_iadd (pc := 4) a dL_stands_4 ?_
  refine a_iald (pc := 5) a (tw hinj w3) (by decide) h.1 dL_stands_5 ?_
  replace h := h.2
  refine a_nm (fun x1 hx => ?_)
  replace h := h x1 hx
  clear hx
  refine a_istore (pc := 6) a (ls1 := [(5, vI x1), (0, Value.ref (ad 162)), (1, Value.ref (ad 163)), (2, Value.ref (ad 164)), (3, vI p4), (4, vI p5)]) dL_stands_6 (by decide) rfl ?_
  refine a_iload (pc := 8) a 0 dL_stands_8 rfl ?_
  refine a_sipush (pc := 10) a dL_stands_10 (by decide) ?_
  refine a_idiv (pc := 13) a dL_stands_13 h.1 (by decide) ?_
  replace h := h.2
  refine a_nm (fun x2 hx => ?_)
  replace h := h x2 hx
  clear hx
  refine a_istore (pc := 14) a (ls1 := [(6, vI x2), (5, vI x1), (0, Value.ref (ad 162)), (1, Value.ref (ad 163)), (2, Value.ref (ad 164)), (3, vI p4), (4, vI p5)]) dL_stands_14 (by decide) rfl ?_
  refine a_iload (pc := 16) a 1 dL_stands_16 rfl ?_
  refine a_bipush (pc := 18) a dL_stands_18 (by decide) ?_
  refine a_idiv (pc := 20) a dL_stands_20 h.1 (by decide) ?_
  replace h := h.2
  refine a_bipush (pc := 21) a dL_stands_21 (by decide) ?_
  refine a_irem (pc := 23) a dL_stands_23 h.1 (by decide) ?_
  replace h := h.2
  refine a_iconst (pc := 24) a dL_stands_24 ?_
  refine a_isub (pc := 25) a dL_stands_25 ?_
  refine a_nm (fun x3 hx => ?_)
  replace h := h x3 hx
  clear hx
  refine a_istore (pc := 26) a (ls1 := [(7, vI x3), (6, vI x2), (5, vI x1), (0, Value.ref (ad 162)), (1, Value.ref (ad 163)), (2, Value.ref (ad 164)), (3, vI p4), (4, vI p5)]) dL_stands_26 (by decide) rfl ?_
  refine a_aload_n (pc := 28) a 3 dL_stands_28 rfl rfl ?_
  refine a_aload_n (pc := 29) a 4 dL_stands_29 rfl rfl ?_
  refine a_iload (pc := 30) a 7 dL_stands_30 rfl ?_
  refine a_csi (pc := 32) a (As := [Value.ref (ad 162), Value.ref (ad 163), vI p5]) (rest := []) (fun sz => c_L_classOf hinj hl0  h sz) (va_cwS 3 hts (gl_S (GL_6 _ (by decide +kernel)) (GL_6 _ (by decide +kernel)) (GL_4 _ (by decide +kernel)) (GL_6 _ (by decide +kernel))) rfl rfl rfl (by decide +kernel) ⟨Nat.le_of_ble_eq_true rfl, Nat.le_of_ble_eq_true rfl⟩) rfl rfl (Nat.le_of_ble_eq_true rfl) ⟨Nat.le_of_ble_eq_true rfl, Nat.le_of_ble_eq_true rfl⟩ dL_stands_32 ?_
  rintro x4 s9 ⟨hs9, h9⟩
  subst s9
  replace h := h9
  clear h9
  refine a_istore (pc := 35) a (ls1 := [(8, vI x4), (7, vI x3), (6, vI x2), (5, vI x1), (0, Value.ref (ad 162)), (1, Value.ref (ad 163)), (2, Value.ref (ad 164)), (3, vI p4), (4, vI p5)]) dL_stands_35 (by decide) rfl ?_
  refine a_iload (pc := 37) a 2 dL_stands_37 rfl ?_
  refine a_iconst (pc := 39) a dL_stands_39 ?_
  refine g_wj1 126 0 0 (fun x7 => [(2, Value.ref (ad 164)), (4, vI p5)]) (fun x7 => [vI x7]) h ?_ ?_
  · clear h
    intro x7 h
    refine a_istore (pc := 126) a (ls1 := [(9, vI x7), (2, Value.ref (ad 164)), (4, vI p5)]) dL_stands_126 (by decide) rfl ?_
    refine a_iload (pc := 128) a 0 dL_stands_128 rfl ?_
    refine a_if_eq (pc := 130) a h.1 dL_stands_130 (tgt := 149) (by decide) (fun hq => ?_) (fun hq => ?_)
    · replace h := h.2.1 hq
      clear hq
      refine a_iconst (pc := 149) a dL_stands_149 ?_
      exact e_z (pc := 150) a hr (by decide) dL_stands_150 ⟨rfl, h⟩
    · replace h := h.2.2 hq
      clear hq
      refine a_aload_n (pc := 133) a 1 dL_stands_133 rfl rfl ?_
      refine a_iconst (pc := 134) a dL_stands_134 ?_
      refine a_iald (pc := 135) a (tw hinj w3) (by decide) (by decide) dL_stands_135 ?_
      refine a_iload (pc := 136) a 2 dL_stands_136 rfl ?_
      refine a_ishr (pc := 138) a dL_stands_138 ?_
      refine a_iconst (pc := 139) a dL_stands_139 ?_
      refine a_iand (pc := 140) a dL_stands_140 ?_
      refine a_iconst (pc := 141) a dL_stands_141 ?_
      refine a_icmp_ne (pc := 142) a h.1 ⟨by decide, by decide⟩ dL_stands_142 (tgt := 149) (by decide) (fun hq => ?_) (fun hq => ?_)
      · replace h := h.2.1 hq
        clear hq
        refine a_iconst (pc := 149) a dL_stands_149 ?_
        exact e_z (pc := 150) a hr (by decide) dL_stands_150 ⟨rfl, h⟩
      · replace h := h.2.2 hq
        clear hq
        refine a_iconst (pc := 145) a dL_stands_145 ?_
        refine a_goto (pc := 146) a dL_stands_146 (tgt := 150) (by decide) ?_
        exact e_z (pc := 150) a hr (by decide) dL_stands_150 ⟨rfl, h⟩
  · clear h
    intro jj126 hjj126 h
    refine a_icmp_ne (pc := 40) a h.1 ⟨by decide, by decide⟩ dL_stands_40 (tgt := 69) (by decide) (fun hq => ?_) (fun hq => ?_)
    · replace h := h.2.1 hq
      clear hq
      refine a_iload (pc := 69) a 2 dL_stands_69 rfl ?_
      refine g_wj0 125 0 0 [(2, Value.ref (ad 164)), (4, vI p5)] [] h ?_ ?_
      · clear h
        intro  h
        refine a_iconst (pc := 125) a dL_stands_125 ?_
        exact hjj126 0 h
      · clear h
        intro jj125 hjj125 h
        refine a_if_ne (pc := 71) a h.1 dL_stands_71 (tgt := 125) (by decide) (fun hq => ?_) (fun hq => ?_)
        · replace h := h.2.1 hq
          clear hq
          refine a_sub (ls1 := [(2, Value.ref (ad 164)), (4, vI p5)]) [6, 8] rfl ?_
          refine a_wid 0 0 (by omega) (by omega) ?_
          exact hjj125  h
        · replace h := h.2.2 hq
          clear hq
          refine a_iload (pc := 74) a 3 dL_stands_74 rfl ?_
          refine a_sipush (pc := 76) a dL_stands_76 (by decide) ?_
          refine a_idiv (pc := 79) a dL_stands_79 h.1 (by decide) ?_
          replace h := h.2
          refine a_bipush (pc := 80) a dL_stands_80 (by decide) ?_
          refine a_irem (pc := 82) a dL_stands_82 h.1 (by decide) ?_
          replace h := h.2
          refine a_iconst (pc := 83) a dL_stands_83 ?_
          refine a_isub (pc := 84) a dL_stands_84 ?_
          refine a_aload_n (pc := 85) a 5 dL_stands_85 rfl rfl ?_
          refine a_iconst (pc := 86) a dL_stands_86 ?_
          refine a_iload (pc := 87) a 8 dL_stands_87 rfl ?_
          refine a_imul (pc := 89) a dL_stands_89 ?_
          refine a_iald (pc := 90) a (tw hinj w2) (by decide) h.1 dL_stands_90 ?_
          replace h := h.2
          refine a_icmp_ne (pc := 91) a h.1 h.2.1 dL_stands_91 (tgt := 125) (by decide) (fun hq => ?_) (fun hq => ?_)
          · replace h := h.2.2.1 hq
            clear hq
            refine a_sub (ls1 := [(2, Value.ref (ad 164)), (4, vI p5)]) [6, 8] rfl ?_
            refine a_wid 0 0 (by omega) (by omega) ?_
            exact hjj125  h
          · replace h := h.2.2.2 hq
            clear hq
            refine a_iload (pc := 94) a 0 dL_stands_94 rfl ?_
            refine a_iload (pc := 96) a 3 dL_stands_96 rfl ?_
            refine a_bipush (pc := 98) a dL_stands_98 (by decide) ?_
            refine a_idiv (pc := 100) a dL_stands_100 h.1 (by decide) ?_
            replace h := h.2
            refine a_bipush (pc := 101) a dL_stands_101 (by decide) ?_
            refine a_irem (pc := 103) a dL_stands_103 h.1 (by decide) ?_
            replace h := h.2
            refine a_iconst (pc := 104) a dL_stands_104 ?_
            refine a_isub (pc := 105) a dL_stands_105 ?_
            refine a_icmp_lt (pc := 106) a h.1 h.2.1 dL_stands_106 (tgt := 125) (by decide) (fun hq => ?_) (fun hq => ?_)
            · replace h := h.2.2.1 hq
              clear hq
              refine a_sub (ls1 := [(2, Value.ref (ad 164)), (4, vI p5)]) [6, 8] rfl ?_
              refine a_wid 0 0 (by omega) (by omega) ?_
              exact hjj125  h
            · replace h := h.2.2.2 hq
              clear hq
              refine a_iload (pc := 109) a 0 dL_stands_109 rfl ?_
              refine a_iload (pc := 111) a 3 dL_stands_111 rfl ?_
              refine a_bipush (pc := 113) a dL_stands_113 (by decide) ?_
              refine a_irem (pc := 115) a dL_stands_115 h.1 (by decide) ?_
              replace h := h.2
              refine a_iconst (pc := 116) a dL_stands_116 ?_
              refine a_isub (pc := 117) a dL_stands_117 ?_
              refine a_icmp_gt (pc := 118) a h.1 h.2.1 dL_stands_118 (tgt := 125) (by decide) (fun hq => ?_) (fun hq => ?_)
              · replace h := h.2.2.1 hq
                clear hq
                refine a_sub (ls1 := [(2, Value.ref (ad 164)), (4, vI p5)]) [6, 8] rfl ?_
                refine a_wid 0 0 (by omega) (by omega) ?_
                exact hjj125  h
              · replace h := h.2.2.2 hq
                clear hq
                refine a_iconst (pc := 121) a dL_stands_121 ?_
                refine a_goto (pc := 122) a dL_stands_122 (tgt := 126) (by decide) ?_
                refine a_sub (ls1 := [(2, Value.ref (ad 164)), (4, vI p5)]) [6, 8] rfl ?_
                refine a_wid 0 0 (by omega) (by omega) ?_
                exact hjj126 1 h
    · replace h := h.2.2 hq
      clear hq
      refine a_aload_n (pc := 43) a 4 dL_stands_43 rfl rfl ?_
      refine a_bipush (pc := 44) a dL_stands_44 (by decide) ?_
      refine a_aload_n (pc := 46) a 5 dL_stands_46 rfl rfl ?_
      refine a_iconst (pc := 47) a dL_stands_47 ?_
      refine a_iload (pc := 48) a 8 dL_stands_48 rfl ?_
      refine a_imul (pc := 50) a dL_stands_50 ?_
      refine a_iald (pc := 51) a (tw hinj w2) (by decide) h.1 dL_stands_51 ?_
      replace h := h.2
      refine a_imul (pc := 52) a dL_stands_52 ?_
      refine a_iconst (pc := 53) a dL_stands_53 ?_
      refine a_iadd (pc := 54) a dL_stands_54 ?_
      refine a_iald (pc := 55) a (tw hinj w1) (by decide) h.1 dL_stands_55 ?_
      replace h := h.2
      refine a_iload (pc := 56) a 1 dL_stands_56 rfl ?_
      refine a_icmp_ne (pc := 58) a h.1 h.2.1 dL_stands_58 (tgt := 65) (by decide) (fun hq => ?_) (fun hq => ?_)
      · replace h := h.2.2.1 hq
        clear hq
        refine a_iconst (pc := 65) a dL_stands_65 ?_
        refine a_goto (pc := 66) a dL_stands_66 (tgt := 126) (by decide) ?_
        refine a_sub (ls1 := [(2, Value.ref (ad 164)), (4, vI p5)]) [6, 8] rfl ?_
        refine a_wid 0 0 (by omega) (by omega) ?_
        exact hjj126 0 h
      · replace h := h.2.2.2 hq
        clear hq
        refine a_iconst (pc := 61) a dL_stands_61 ?_
        refine a_goto (pc := 62) a dL_stands_62 (tgt := 126) (by decide) ?_
        refine a_sub (ls1 := [(2, Value.ref (ad 164)), (4, vI p5)]) [6, 8] rfl ?_
        refine a_wid 0 0 (by omega) (by omega) ?_
        exact hjj126 1 h

set_option maxRecDepth 100000 in
set_option maxHeartbeats 4000000 in
theorem c_L_isSo {l : Launch} {D : va_G} {X : XI} {ad : Nat → Nat} (hinj : adI ad) (hl0 : l.stackTraces = false) (hw : nW ad = 165)   {σ : St} {K : Int → St → Prop} (h : f_L_isSo σ K) (sz : Nat) : Met l yL_isSo (WW (.code yL_isSo cL_isSo 10 (some .boolean))) { frames := 9, cells := 882, slots := 5620, locals := 192 } (va_Pc [Value.ref (ad 0), Value.ref (ad 161), Value.ref (ad 162), Value.ref (ad 163), Value.ref (ad 164)] (WD D X ad σ sz)) (QI D X ad sz K) 882 5620 (AA ad sz) := by
  refine aM_start (cc := cL_isSo) (maxL := 10) (ret := (some .boolean)) (own := RL) [Value.ref (ad 0), Value.ref (ad 161), Value.ref (ad 162), Value.ref (ad 163), Value.ref (ad 164)] (by decide) rfl rfl (Nat.le_of_ble_eq_true rfl) hinj hl0 ?_
  intro p e s m below meth c a hr hsz
  subst hsz
  have hts := a.1.2.2.2.2
  have w1 : tyc 0 (10, 0) := ⟨by decide, rfl⟩
  have w2 : tyc 161 (0, 15) := ⟨by decide, rfl⟩
  have w3 : tyc 162 (0, 32) := ⟨by decide, rfl⟩
  have w4 : tyc 163 (0, 60) := ⟨by decide, rfl⟩
  have w5 : tyc 164 (0, 64) := ⟨by decide, rfl⟩
  have w6 := hts (Cond.constant RL 93 (iI (-100001))) (List.mem_cons_of_mem _ (GL_5 _ (by decide +kernel)))
  unfold f_L_isSo at h
  refine a_sub (ls1 := [(0, Value.ref (ad 0)), (1, Value.ref (ad 161)), (2, Value.ref (ad 162)), (3, Value.ref (ad 163)), (4, Value.ref (ad 164))]) [0, 1, 2, 3, 4] rfl ?_
  refine a_aload_n (pc := 0) a 1 dL_isSo_0 rfl rfl ?_
  refine a_aload_n (pc := 1) a 2 dL_isSo_1 rfl rfl ?_
  refine a_aload_n (pc := 2) a 3 dL_isSo_2 rfl rfl ?_
  refine a_aload (pc := 3) a 4 dL_isSo_3 rfl ?_
  refine a_csv (pc := 5) a (As := [Value.ref (ad 161), Value.ref (ad 162), Value.ref (ad 163), Value.ref (ad 164)]) (rest := []) (fun sz => c_L_legend hinj hl0 hw  h sz) (va_cwS 4 hts (gl_S (GL_5 _ (by decide +kernel)) (GL_5 _ (by decide +kernel)) (GL_4 _ (by decide +kernel)) (GL_5 _ (by decide +kernel))) rfl rfl rfl (by decide +kernel) ⟨Nat.le_of_ble_eq_true rfl, Nat.le_of_ble_eq_true rfl⟩) rfl rfl (Nat.le_of_ble_eq_true rfl) ⟨Nat.le_of_ble_eq_true rfl, Nat.le_of_ble_eq_true rfl⟩ dL_isSo_5 ?_
  clear h
  intro s1 h
  refine a_aload_n (pc := 8) a 0 dL_isSo_8 rfl rfl ?_
  refine a_cvi (pc := 9) a (As := []) (rest := []) w1 vc6 (fun sz => c_X6_lines hinj hl0  h sz) (cwV 0 hts (gl_V (GL_7 _ (by decide +kernel)) (GL_7 _ (by decide +kernel)) (GL_7 _ (by decide +kernel)) (GL_1 _ (by decide +kernel)) (GL_7 _ (by decide +kernel))) rfl rfl rfl (by decide +kernel) ⟨Nat.le_of_ble_eq_true rfl, Nat.le_of_ble_eq_true rfl⟩) rfl rfl (Nat.le_of_ble_eq_true rfl) ⟨Nat.le_of_ble_eq_true rfl, Nat.le_of_ble_eq_true rfl⟩ dL_isSo_9 ?_
  clear h
  intro x2 s3 h
  refine a_aload (pc := 12) a 4 dL_isSo_12 rfl ?_
  refine a_iconst (pc := 14) a dL_isSo_14 ?_
  refine a_iald (pc := 15) a (tw hinj w5) (by decide) (by decide) dL_isSo_15 ?_
  refine g_wj1s 116 51 634 (fun x24 => [(0, Value.ref (ad 0)), (1, Value.ref (ad 161)), (2, Value.ref (ad 162)), (3, Value.ref (ad 163)), (4, Value.ref (ad 164))]) (fun x24 => [vI x24]) h ?_ ?_
  · clear h
    intro x24 s25 h
    refine a_istore (pc := 116) a (ls1 := [(5, vI x24), (0, Value.ref (ad 0)), (1, Value.ref (ad 161)), (2, Value.ref (ad 162)), (3, Value.ref (ad 163)), (4, Value.ref (ad 164))]) dL_isSo_116 (by decide) rfl ?_
    refine a_iconst (pc := 118) a dL_isSo_118 ?_
    refine a_istore (pc := 119) a (ls1 := [(6, vI 0), (5, vI x24), (0, Value.ref (ad 0)), (1, Value.ref (ad 161)), (2, Value.ref (ad 162)), (3, Value.ref (ad 163)), (4, Value.ref (ad 164))]) dL_isSo_119 (by decide) rfl ?_
    refine a_sub (ls1 := [(0, Value.ref (ad 0)), (1, Value.ref (ad 161)), (2, Value.ref (ad 162)), (3, Value.ref (ad 163)), (4, Value.ref (ad 164)), (5, vI x24), (6, vI 0)]) [2, 3, 4, 5, 6, 1, 0] rfl ?_
    refine g_wb2s 11 1 6 11 66 (fun x26 x27 => [(0, Value.ref (ad 0)), (1, Value.ref (ad 161)), (2, Value.ref (ad 162)), (3, Value.ref (ad 163)), (4, Value.ref (ad 164)), (5, vI x26), (6, vI x27)]) h (by decide) (by decide) ?_
    clear h
    intro x26 x27 s28 ag121 c_k121 s_k121 hc_k121 hs_k121 hag121 h
    refine a_iload (pc := 121) a 6 dL_isSo_121 rfl ?_
    refine a_bipush (pc := 123) a dL_isSo_123 (by decide) ?_
    refine a_icmp_ge (pc := 125) a h.1 ⟨by decide, by decide⟩ dL_isSo_125 (tgt := 159) (by decide) (fun hq => ?_) (fun hq => ?_)
    · replace h := h.2.1 hq
      clear hq
      refine a_wid 62 700 (by omega) (by omega) ?_
      refine a_iconst (pc := 159) a dL_isSo_159 ?_
      refine a_istore (pc := 160) a (ls1 := [(6, vI 0), (0, Value.ref (ad 0)), (1, Value.ref (ad 161)), (2, Value.ref (ad 162)), (3, Value.ref (ad 163)), (4, Value.ref (ad 164)), (5, vI x26)]) dL_isSo_160 (by decide) rfl ?_
      refine a_sub (ls1 := [(0, Value.ref (ad 0)), (1, Value.ref (ad 161)), (2, Value.ref (ad 162)), (3, Value.ref (ad 163)), (4, Value.ref (ad 164)), (5, vI x26), (6, vI 0)]) [1, 2, 3, 4, 5, 6, 0] rfl ?_
      refine g_wb2s 6 1 6 6 36 (fun x29 x30 => [(0, Value.ref (ad 0)), (1, Value.ref (ad 161)), (2, Value.ref (ad 162)), (3, Value.ref (ad 163)), (4, Value.ref (ad 164)), (5, vI x29), (6, vI x30)]) h (by decide) (by decide) ?_
      clear h
      intro x29 x30 s31 ag162 c_k162 s_k162 hc_k162 hs_k162 hag162 h
      refine a_iload (pc := 162) a 6 dL_isSo_162 rfl ?_
      refine a_iconst (pc := 164) a dL_isSo_164 ?_
      refine a_icmp_ge (pc := 165) a h.1 ⟨by decide, by decide⟩ dL_isSo_165 (tgt := 213) (by decide) (fun hq => ?_) (fun hq => ?_)
      · replace h := h.2.1 hq
        clear hq
        refine a_wid 68 736 (by omega) (by omega) ?_
        refine a_iload (pc := 213) a 5 dL_isSo_213 rfl ?_
        refine g_wj1s 290 69 742 (fun x48 => [(0, Value.ref (ad 0)), (1, Value.ref (ad 161)), (2, Value.ref (ad 162)), (3, Value.ref (ad 163)), (4, Value.ref (ad 164))]) (fun x48 => [vI x48]) h ?_ ?_
        · clear h
          intro x48 s49 h
          refine a_istore (pc := 290) a (ls1 := [(5, vI x48), (0, Value.ref (ad 0)), (1, Value.ref (ad 161)), (2, Value.ref (ad 162)), (3, Value.ref (ad 163)), (4, Value.ref (ad 164))]) dL_isSo_290 (by decide) rfl ?_
          refine a_iconst (pc := 292) a dL_isSo_292 ?_
          refine a_istore (pc := 293) a (ls1 := [(6, vI 0), (5, vI x48), (0, Value.ref (ad 0)), (1, Value.ref (ad 161)), (2, Value.ref (ad 162)), (3, Value.ref (ad 163)), (4, Value.ref (ad 164))]) dL_isSo_293 (by decide) rfl ?_
          refine a_sub (ls1 := [(0, Value.ref (ad 0)), (1, Value.ref (ad 161)), (2, Value.ref (ad 162)), (3, Value.ref (ad 163)), (4, Value.ref (ad 164)), (5, vI x48), (6, vI 0)]) [2, 3, 4, 5, 6, 1, 0] rfl ?_
          refine g_wb2s 55 8 48 440 2640 (fun x50 x51 => [(0, Value.ref (ad 0)), (1, Value.ref (ad 161)), (2, Value.ref (ad 162)), (3, Value.ref (ad 163)), (4, Value.ref (ad 164)), (5, vI x50), (6, vI x51)]) h (by decide) (by decide) ?_
          clear h
          intro x50 x51 s52 ag295 c_k295 s_k295 hc_k295 hs_k295 hag295 h
          refine a_iload (pc := 295) a 6 dL_isSo_295 rfl ?_
          refine a_aload (pc := 297) a 4 dL_isSo_297 rfl ?_
          refine a_iconst (pc := 299) a dL_isSo_299 ?_
          refine a_iald (pc := 300) a (tw hinj w5) (by decide) (by decide) dL_isSo_300 ?_
          refine g_wj0 525 509 3382 [(0, Value.ref (ad 0)), (1, Value.ref (ad 161)), (2, Value.ref (ad 162)), (3, Value.ref (ad 163)), (4, Value.ref (ad 164)), (5, vI x50)] [] h ?_ ?_
          · clear h
            intro  h
            refine a_iconst (pc := 525) a dL_isSo_525 ?_
            refine a_istore (pc := 526) a (ls1 := [(6, vI 0), (0, Value.ref (ad 0)), (1, Value.ref (ad 161)), (2, Value.ref (ad 162)), (3, Value.ref (ad 163)), (4, Value.ref (ad 164)), (5, vI x50)]) dL_isSo_526 (by decide) rfl ?_
            refine a_sub (ls1 := [(0, Value.ref (ad 0)), (1, Value.ref (ad 161)), (2, Value.ref (ad 162)), (3, Value.ref (ad 163)), (4, Value.ref (ad 164)), (5, vI x50), (6, vI 0)]) [1, 2, 3, 4, 5, 6, 0] rfl ?_
            refine g_wb2s 13 20 120 260 1560 (fun x77 x78 => [(0, Value.ref (ad 0)), (1, Value.ref (ad 161)), (2, Value.ref (ad 162)), (3, Value.ref (ad 163)), (4, Value.ref (ad 164)), (5, vI x77), (6, vI x78)]) h (by decide) (by decide) ?_
            clear h
            intro x77 x78 s79 ag528 c_k528 s_k528 hc_k528 hs_k528 hag528 h
            refine a_iload (pc := 528) a 6 dL_isSo_528 rfl ?_
            refine a_aload_n (pc := 530) a 1 dL_isSo_530 rfl rfl ?_
            refine a_bipush (pc := 531) a dL_isSo_531 (by decide) ?_
            refine a_iald (pc := 533) a (tw hinj w2) (by decide) (by decide) dL_isSo_533 ?_
            refine g_wj0 722 769 4942 [(0, Value.ref (ad 0)), (2, Value.ref (ad 162)), (3, Value.ref (ad 163)), (4, Value.ref (ad 164)), (5, vI x77)] [] h ?_ ?_
            · clear h
              intro  h
              refine a_iconst (pc := 722) a dL_isSo_722 ?_
              refine a_istore (pc := 723) a (ls1 := [(6, vI 0), (0, Value.ref (ad 0)), (2, Value.ref (ad 162)), (3, Value.ref (ad 163)), (4, Value.ref (ad 164)), (5, vI x77)]) dL_isSo_723 (by decide) rfl ?_
              refine a_sub (ls1 := [(0, Value.ref (ad 0)), (2, Value.ref (ad 162)), (3, Value.ref (ad 163)), (4, Value.ref (ad 164)), (5, vI x77), (6, vI 0)]) [1, 2, 3, 4, 5, 0] rfl ?_
              refine g_wb2s 5 22 132 110 660 (fun x99 x100 => [(0, Value.ref (ad 0)), (2, Value.ref (ad 162)), (3, Value.ref (ad 163)), (4, Value.ref (ad 164)), (5, vI x99), (6, vI x100)]) h (by decide) (by decide) ?_
              clear h
              intro x99 x100 s101 ag725 c_k725 s_k725 hc_k725 hs_k725 hag725 h
              refine a_iload (pc := 725) a 5 dL_isSo_725 rfl ?_
              refine a_iconst (pc := 727) a dL_isSo_727 ?_
              refine g_wj0 934 879 5602 [(0, Value.ref (ad 0)), (4, Value.ref (ad 164)), (5, vI x99)] [] h ?_ ?_
              · clear h
                intro  h
                refine a_iload (pc := 934) a 2 dL_isSo_934 rfl ?_
                refine a_if_eq (pc := 936) a h.1 dL_isSo_936 (tgt := 969) (by decide) (fun hq => ?_) (fun hq => ?_)
                · replace h := h.2.1 hq
                  clear hq
                  refine a_iconst (pc := 969) a dL_isSo_969 ?_
                  refine a_wid 882 5620 (by omega) (by omega) ?_
                  exact e_z (pc := 970) a hr (by decide) dL_isSo_970 h
                · replace h := h.2.2 hq
                  clear hq
                  refine a_aload_n (pc := 939) a 0 dL_isSo_939 rfl rfl ?_
                  refine a_aload (pc := 940) a 1 dL_isSo_940 rfl ?_
                  refine a_iconst (pc := 942) a dL_isSo_942 ?_
                  refine a_iald (pc := 943) a (tw hinj w5) (by decide) (by decide) dL_isSo_943 ?_
                  refine a_iconst (pc := 944) a dL_isSo_944 ?_
                  refine a_cwi (pc := 945) a (As := [Value.ref (ad 0), vI (s101 164 0), vI 0]) (rest := []) (fun sz => c_L_lineOf hinj hl0  h sz) (vx_cwSW 3 hts (gl_S (GL_16 _ (by decide +kernel)) (GL_16 _ (by decide +kernel)) (GL_4 _ (by decide +kernel)) (GL_16 _ (by decide +kernel))) rfl rfl rfl (by decide +kernel) ⟨Nat.le_of_ble_eq_true rfl, Nat.le_of_ble_eq_true rfl⟩) rfl rfl (Nat.le_of_ble_eq_true rfl) ⟨Nat.le_of_ble_eq_true rfl, Nat.le_of_ble_eq_true rfl⟩ dL_isSo_945 ?_
                  clear h
                  intro x121 s122 h
                  refine a_ldc (pc := 948) a (n := (-100001)) w6 dL_isSo_948 ?_
                  refine a_icmp_ne (pc := 950) a h.1 ⟨by decide, by decide⟩ dL_isSo_950 (tgt := 969) (by decide) (fun hq => ?_) (fun hq => ?_)
                  · replace h := h.2.1 hq
                    clear hq
                    refine a_iconst (pc := 969) a dL_isSo_969 ?_
                    refine a_wid 882 5620 (by omega) (by omega) ?_
                    exact e_z (pc := 970) a hr (by decide) dL_isSo_970 h
                  · replace h := h.2.2 hq
                    clear hq
                    refine a_aload_n (pc := 953) a 0 dL_isSo_953 rfl rfl ?_
                    refine a_bipush (pc := 954) a dL_isSo_954 (by decide) ?_
                    refine a_iconst (pc := 956) a dL_isSo_956 ?_
                    refine a_cwi (pc := 957) a (As := [Value.ref (ad 0), vI 11, vI 0]) (rest := []) (fun sz => c_L_kindOf hinj hl0  h sz) (vx_cwSW 3 hts (gl_S (GL_18 _ (by decide +kernel)) (GL_18 _ (by decide +kernel)) (GL_4 _ (by decide +kernel)) (GL_18 _ (by decide +kernel))) rfl rfl rfl (by decide +kernel) ⟨Nat.le_of_ble_eq_true rfl, Nat.le_of_ble_eq_true rfl⟩) rfl rfl (Nat.le_of_ble_eq_true rfl) ⟨Nat.le_of_ble_eq_true rfl, Nat.le_of_ble_eq_true rfl⟩ dL_isSo_957 ?_
                    clear h
                    intro x123 s124 h
                    refine a_bipush (pc := 960) a dL_isSo_960 (by decide) ?_
                    refine a_icmp_ne (pc := 962) a h.1 ⟨by decide, by decide⟩ dL_isSo_962 (tgt := 969) (by decide) (fun hq => ?_) (fun hq => ?_)
                    · replace h := h.2.1 hq
                      clear hq
                      refine a_iconst (pc := 969) a dL_isSo_969 ?_
                      refine a_wid 882 5620 (by omega) (by omega) ?_
                      exact e_z (pc := 970) a hr (by decide) dL_isSo_970 h
                    · replace h := h.2.2 hq
                      clear hq
                      refine a_iconst (pc := 965) a dL_isSo_965 ?_
                      refine a_goto (pc := 966) a dL_isSo_966 (tgt := 970) (by decide) ?_
                      refine a_wid 882 5620 (by omega) (by omega) ?_
                      exact e_z (pc := 970) a hr (by decide) dL_isSo_970 h
              · clear h
                intro jj934 hjj934 h
                refine a_icmp_ge (pc := 728) a h.1 ⟨by decide, by decide⟩ dL_isSo_728 (tgt := 934) (by decide) (fun hq => ?_) (fun hq => ?_)
                · replace h := h.2.1 hq
                  clear hq
                  refine a_wid 879 5602 (by omega) (by omega) ?_
                  refine a_sub (ls1 := [(0, Value.ref (ad 0)), (4, Value.ref (ad 164)), (5, vI x99)]) [0, 3, 4] rfl ?_
                  exact hjj934  h
                · replace h := h.2.2 hq
                  clear hq
                  refine a_iload (pc := 731) a 4 dL_isSo_731 rfl ?_
                  refine a_if_eq (pc := 733) a h.1 dL_isSo_733 (tgt := 934) (by decide) (fun hq => ?_) (fun hq => ?_)
                  · replace h := h.2.1 hq
                    clear hq
                    refine a_wid 879 5602 (by omega) (by omega) ?_
                    refine a_sub (ls1 := [(0, Value.ref (ad 0)), (4, Value.ref (ad 164)), (5, vI x99)]) [0, 3, 4] rfl ?_
                    exact hjj934  h
                  · replace h := h.2.2 hq
                    clear hq
                    refine a_iconst (pc := 736) a dL_isSo_736 ?_
                    refine a_istore (pc := 737) a (ls1 := [(7, vI 0), (0, Value.ref (ad 0)), (2, Value.ref (ad 162)), (3, Value.ref (ad 163)), (4, Value.ref (ad 164)), (5, vI x99), (6, vI x100)]) dL_isSo_737 (by decide) rfl ?_
                    refine a_iconst (pc := 739) a dL_isSo_739 ?_
                    refine a_istore (pc := 740) a (ls1 := [(8, vI 0), (7, vI 0), (0, Value.ref (ad 0)), (2, Value.ref (ad 162)), (3, Value.ref (ad 163)), (4, Value.ref (ad 164)), (5, vI x99), (6, vI x100)]) dL_isSo_740 (by decide) rfl ?_
                    refine a_sub (ls1 := [(0, Value.ref (ad 0)), (2, Value.ref (ad 162)), (3, Value.ref (ad 163)), (4, Value.ref (ad 164)), (5, vI x99), (6, vI x100), (7, vI 0), (8, vI 0)]) [2, 3, 4, 5, 6, 7, 1, 0] rfl ?_
                    refine g_wl2 (fun x103 x104 => [(0, Value.ref (ad 0)), (2, Value.ref (ad 162)), (3, Value.ref (ad 163)), (4, Value.ref (ad 164)), (5, vI x99), (6, vI x100), (7, vI x103), (8, vI x104)]) h ?_
                    clear h
                    intro x103 x104 ag742 hag742 h
                    refine a_iload (pc := 742) a 7 dL_isSo_742 rfl ?_
                    refine a_aload (pc := 744) a 3 dL_isSo_744 rfl ?_
                    refine a_iconst (pc := 746) a dL_isSo_746 ?_
                    refine a_iald (pc := 747) a (tw hinj w5) (by decide) (by decide) dL_isSo_747 ?_
                    refine a_icmp_ge (pc := 748) a h.1 h.2.1 dL_isSo_748 (tgt := 804) (by decide) (fun hq => ?_) (fun hq => ?_)
                    · replace h := h.2.2.1 hq
                      clear hq
                      refine a_iconst (pc := 804) a dL_isSo_804 ?_
                      refine a_istore (pc := 805) a (ls1 := [(8, vI 0), (0, Value.ref (ad 0)), (2, Value.ref (ad 162)), (3, Value.ref (ad 163)), (4, Value.ref (ad 164)), (5, vI x99), (6, vI x100), (7, vI x103)]) dL_isSo_805 (by decide) rfl ?_
                      refine a_sub (ls1 := [(0, Value.ref (ad 0)), (2, Value.ref (ad 162)), (3, Value.ref (ad 163)), (4, Value.ref (ad 164)), (5, vI x99), (6, vI x100), (7, vI x103), (8, vI 0)]) [1, 2, 3, 4, 5, 6, 7, 0] rfl ?_
                      refine g_wb2s 9 2 12 18 108 (fun x105 x106 => [(0, Value.ref (ad 0)), (2, Value.ref (ad 162)), (3, Value.ref (ad 163)), (4, Value.ref (ad 164)), (5, vI x105), (6, vI x100), (7, vI x103), (8, vI x106)]) h (by decide) (by decide) ?_
                      clear h
                      intro x105 x106 s107 ag807 c_k807 s_k807 hc_k807 hs_k807 hag807 h
                      refine a_iload (pc := 807) a 7 dL_isSo_807 rfl ?_
                      refine a_bipush (pc := 809) a dL_isSo_809 (by decide) ?_
                      refine a_icmp_ge (pc := 811) a h.1 ⟨by decide, by decide⟩ dL_isSo_811 (tgt := 879) (by decide) (fun hq => ?_) (fun hq => ?_)
                      · replace h := h.2.1 hq
                        clear hq
                        refine a_wid (c_k725 + 18) (s_k725 + 108) (by omega) (by omega) ?_
                        refine a_iload (pc := 879) a 4 dL_isSo_879 rfl ?_
                        refine a_if_eq (pc := 881) a h.1 dL_isSo_881 (tgt := 925) (by decide) (fun hq => ?_) (fun hq => ?_)
                        · replace h := h.2.1 hq
                          clear hq
                          refine a_iconst (pc := 925) a dL_isSo_925 ?_
                          refine a_istore (pc := 926) a (ls1 := [(5, vI 0), (0, Value.ref (ad 0)), (2, Value.ref (ad 162)), (3, Value.ref (ad 163)), (4, Value.ref (ad 164)), (6, vI x100), (7, vI x103), (8, vI x106)]) dL_isSo_926 (by decide) rfl ?_
                          refine a_iinc (pc := 928) a (ls1 := [(6, vI (x100 + 1)), (5, vI 0), (0, Value.ref (ad 0)), (2, Value.ref (ad 162)), (3, Value.ref (ad 163)), (4, Value.ref (ad 164)), (7, vI x103), (8, vI x106)]) 5 dL_isSo_928 rfl (by decide) rfl ?_
                          refine a_goto (pc := 931) a dL_isSo_931 (tgt := 725) (by decide) ?_
                          refine a_sub (ls1 := [(0, Value.ref (ad 0)), (2, Value.ref (ad 162)), (3, Value.ref (ad 163)), (4, Value.ref (ad 164)), (5, vI 0), (6, vI (x100 + 1))]) [2, 3, 4, 5, 1, 0] rfl ?_
                          refine a_wid (c_k725 + 22) (s_k725 + 132) (by omega) (by omega) ?_
                          exact hag725 0 (x100 + 1) s107 h
                        · replace h := h.2.2 hq
                          clear hq
                          refine a_aload_n (pc := 884) a 0 dL_isSo_884 rfl rfl ?_
                          refine a_iload (pc := 885) a 5 dL_isSo_885 rfl ?_
                          refine a_bipush (pc := 887) a dL_isSo_887 (by decide) ?_
                          refine a_cwi (pc := 889) a (As := [Value.ref (ad 0), vI x100, vI 8]) (rest := []) (fun sz => c_L_kindOf hinj hl0  h sz) (vx_cwSW 3 hts (gl_S (GL_18 _ (by decide +kernel)) (GL_18 _ (by decide +kernel)) (GL_4 _ (by decide +kernel)) (GL_18 _ (by decide +kernel))) rfl rfl rfl (by decide +kernel) ⟨Nat.le_of_ble_eq_true rfl, Nat.le_of_ble_eq_true rfl⟩) rfl rfl (Nat.le_of_ble_eq_true rfl) ⟨by show c_k725 + 18 + 2 ≤ 882; omega, by show s_k725 + 108 + 12 ≤ 5620; omega⟩ dL_isSo_889 ?_
                          clear h
                          intro x108 s109 h
                          refine a_iload (pc := 892) a 6 dL_isSo_892 rfl ?_
                          refine a_icmp_ne (pc := 894) a h.1 h.2.1 dL_isSo_894 (tgt := 925) (by decide) (fun hq => ?_) (fun hq => ?_)
                          · replace h := h.2.2.1 hq
                            clear hq
                            refine a_iconst (pc := 925) a dL_isSo_925 ?_
                            refine a_istore (pc := 926) a (ls1 := [(5, vI 0), (0, Value.ref (ad 0)), (2, Value.ref (ad 162)), (3, Value.ref (ad 163)), (4, Value.ref (ad 164)), (6, vI x100), (7, vI x103), (8, vI x106)]) dL_isSo_926 (by decide) rfl ?_
                            refine a_iinc (pc := 928) a (ls1 := [(6, vI (x100 + 1)), (5, vI 0), (0, Value.ref (ad 0)), (2, Value.ref (ad 162)), (3, Value.ref (ad 163)), (4, Value.ref (ad 164)), (7, vI x103), (8, vI x106)]) 5 dL_isSo_928 rfl (by decide) rfl ?_
                            refine a_goto (pc := 931) a dL_isSo_931 (tgt := 725) (by decide) ?_
                            refine a_sub (ls1 := [(0, Value.ref (ad 0)), (2, Value.ref (ad 162)), (3, Value.ref (ad 163)), (4, Value.ref (ad 164)), (5, vI 0), (6, vI (x100 + 1))]) [2, 3, 4, 5, 1, 0] rfl ?_
                            refine a_wid (c_k725 + 22) (s_k725 + 132) (by omega) (by omega) ?_
                            exact hag725 0 (x100 + 1) s109 h
                          · replace h := h.2.2.2 hq
                            clear hq
                            refine a_aload_n (pc := 897) a 0 dL_isSo_897 rfl rfl ?_
                            refine a_iload (pc := 898) a 5 dL_isSo_898 rfl ?_
                            refine a_bipush (pc := 900) a dL_isSo_900 (by decide) ?_
                            refine a_cwi (pc := 902) a (As := [Value.ref (ad 0), vI x100, vI 9]) (rest := []) (fun sz => c_L_kindOf hinj hl0  h sz) (vx_cwSW 3 hts (gl_S (GL_18 _ (by decide +kernel)) (GL_18 _ (by decide +kernel)) (GL_4 _ (by decide +kernel)) (GL_18 _ (by decide +kernel))) rfl rfl rfl (by decide +kernel) ⟨Nat.le_of_ble_eq_true rfl, Nat.le_of_ble_eq_true rfl⟩) rfl rfl (Nat.le_of_ble_eq_true rfl) ⟨by show c_k725 + 18 + 2 + 2 ≤ 882; omega, by show s_k725 + 108 + 12 + 12 ≤ 5620; omega⟩ dL_isSo_902 ?_
                            clear h
                            intro x110 s111 h
                            refine a_aload_n (pc := 905) a 1 dL_isSo_905 rfl rfl ?_
                            refine a_aload_n (pc := 906) a 2 dL_isSo_906 rfl rfl ?_
                            refine a_aload (pc := 907) a 3 dL_isSo_907 rfl ?_
                            refine a_iconst (pc := 909) a dL_isSo_909 ?_
                            refine a_iald (pc := 910) a (tw hinj w5) (by decide) (by decide) dL_isSo_910 ?_
                            refine a_iload (pc := 911) a 5 dL_isSo_911 rfl ?_
                            refine a_iconst (pc := 913) a dL_isSo_913 ?_
                            refine a_iconst (pc := 914) a dL_isSo_914 ?_
                            refine a_csi (pc := 915) a (As := [Value.ref (ad 162), Value.ref (ad 163), vI (s111 164 3), vI x100, vI 0, vI 5]) (rest := [vI x110]) (fun sz => c_L_signs hinj hl0  h sz) (va_cwS 6 hts (gl_S (GL_6 _ (by decide +kernel)) (GL_6 _ (by decide +kernel)) (GL_4 _ (by decide +kernel)) (GL_6 _ (by decide +kernel))) rfl rfl rfl (by decide +kernel) ⟨Nat.le_of_ble_eq_true rfl, Nat.le_of_ble_eq_true rfl⟩) rfl rfl (Nat.le_of_ble_eq_true rfl) ⟨by show c_k725 + 18 + 2 + 2 + 0 ≤ 882; omega, by show s_k725 + 108 + 12 + 12 + 0 ≤ 5620; omega⟩ dL_isSo_915 ?_
                            rintro x112 s9 ⟨hs9, h9⟩
                            subst s9
                            replace h := h9
                            clear h9
                            refine a_icmp_ne (pc := 918) a h.1 h.2.1 dL_isSo_918 (tgt := 925) (by decide) (fun hq => ?_) (fun hq => ?_)
                            · replace h := h.2.2.1 hq
                              clear hq
                              refine a_iconst (pc := 925) a dL_isSo_925 ?_
                              refine a_istore (pc := 926) a (ls1 := [(5, vI 0), (0, Value.ref (ad 0)), (2, Value.ref (ad 162)), (3, Value.ref (ad 163)), (4, Value.ref (ad 164)), (6, vI x100), (7, vI x103), (8, vI x106)]) dL_isSo_926 (by decide) rfl ?_
                              refine a_iinc (pc := 928) a (ls1 := [(6, vI (x100 + 1)), (5, vI 0), (0, Value.ref (ad 0)), (2, Value.ref (ad 162)), (3, Value.ref (ad 163)), (4, Value.ref (ad 164)), (7, vI x103), (8, vI x106)]) 5 dL_isSo_928 rfl (by decide) rfl ?_
                              refine a_goto (pc := 931) a dL_isSo_931 (tgt := 725) (by decide) ?_
                              refine a_sub (ls1 := [(0, Value.ref (ad 0)), (2, Value.ref (ad 162)), (3, Value.ref (ad 163)), (4, Value.ref (ad 164)), (5, vI 0), (6, vI (x100 + 1))]) [2, 3, 4, 5, 1, 0] rfl ?_
                              refine a_wid (c_k725 + 22) (s_k725 + 132) (by omega) (by omega) ?_
                              exact hag725 0 (x100 + 1) s111 h
                            · replace h := h.2.2.2 hq
                              clear hq
                              refine a_iconst (pc := 921) a dL_isSo_921 ?_
                              refine a_goto (pc := 922) a dL_isSo_922 (tgt := 926) (by decide) ?_
                              refine a_istore (pc := 926) a (ls1 := [(5, vI 1), (0, Value.ref (ad 0)), (2, Value.ref (ad 162)), (3, Value.ref (ad 163)), (4, Value.ref (ad 164)), (6, vI x100), (7, vI x103), (8, vI x106)]) dL_isSo_926 (by decide) rfl ?_
                              refine a_iinc (pc := 928) a (ls1 := [(6, vI (x100 + 1)), (5, vI 1), (0, Value.ref (ad 0)), (2, Value.ref (ad 162)), (3, Value.ref (ad 163)), (4, Value.ref (ad 164)), (7, vI x103), (8, vI x106)]) 5 dL_isSo_928 rfl (by decide) rfl ?_
                              refine a_goto (pc := 931) a dL_isSo_931 (tgt := 725) (by decide) ?_
                              refine a_sub (ls1 := [(0, Value.ref (ad 0)), (2, Value.ref (ad 162)), (3, Value.ref (ad 163)), (4, Value.ref (ad 164)), (5, vI 1), (6, vI (x100 + 1))]) [2, 3, 4, 5, 1, 0] rfl ?_
                              refine a_wid (c_k725 + 22) (s_k725 + 132) (by omega) (by omega) ?_
                              exact hag725 1 (x100 + 1) s111 h
                      · replace h := h.2.2 hq
                        clear hq
                        refine a_iload (pc := 814) a 4 dL_isSo_814 rfl ?_
                        refine a_if_eq (pc := 816) a h.1 dL_isSo_816 (tgt := 870) (by decide) (fun hq => ?_) (fun hq => ?_)
                        · replace h := h.2.1 hq
                          clear hq
                          refine a_iconst (pc := 870) a dL_isSo_870 ?_
                          refine a_istore (pc := 871) a (ls1 := [(5, vI 0), (0, Value.ref (ad 0)), (2, Value.ref (ad 162)), (3, Value.ref (ad 163)), (4, Value.ref (ad 164)), (6, vI x100), (7, vI x103), (8, vI x106)]) dL_isSo_871 (by decide) rfl ?_
                          refine a_iinc (pc := 873) a (ls1 := [(8, vI (x106 + 1)), (5, vI 0), (0, Value.ref (ad 0)), (2, Value.ref (ad 162)), (3, Value.ref (ad 163)), (4, Value.ref (ad 164)), (6, vI x100), (7, vI x103)]) 7 dL_isSo_873 rfl (by decide) rfl ?_
                          refine a_goto (pc := 876) a dL_isSo_876 (tgt := 807) (by decide) ?_
                          refine a_sub (ls1 := [(0, Value.ref (ad 0)), (2, Value.ref (ad 162)), (3, Value.ref (ad 163)), (4, Value.ref (ad 164)), (5, vI 0), (6, vI x100), (7, vI x103), (8, vI (x106 + 1))]) [2, 3, 4, 5, 1, 6, 7, 0] rfl ?_
                          refine a_wid (c_k807 + 2) (s_k807 + 12) (by omega) (by omega) ?_
                          exact hag807 0 (x106 + 1) s107 h
                        · replace h := h.2.2 hq
                          clear hq
                          refine a_aload_n (pc := 819) a 0 dL_isSo_819 rfl rfl ?_
                          refine a_iload (pc := 820) a 5 dL_isSo_820 rfl ?_
                          refine a_iload (pc := 822) a 7 dL_isSo_822 rfl ?_
                          refine a_cwi (pc := 824) a (As := [Value.ref (ad 0), vI x100, vI x106]) (rest := []) (fun sz => c_L_kindOf hinj hl0  h sz) (vx_cwSW 3 hts (gl_S (GL_18 _ (by decide +kernel)) (GL_18 _ (by decide +kernel)) (GL_4 _ (by decide +kernel)) (GL_18 _ (by decide +kernel))) rfl rfl rfl (by decide +kernel) ⟨Nat.le_of_ble_eq_true rfl, Nat.le_of_ble_eq_true rfl⟩) rfl rfl (Nat.le_of_ble_eq_true rfl) ⟨by show c_k807 + 2 ≤ 882; omega, by show s_k807 + 12 ≤ 5620; omega⟩ dL_isSo_824 ?_
                          clear h
                          intro x113 s114 h
                          refine a_iload (pc := 827) a 7 dL_isSo_827 rfl ?_
                          refine a_iconst (pc := 829) a dL_isSo_829 ?_
                          refine g_wj1 863 (c_k807 + 2) (s_k807 + 12) (fun x117 => [(0, Value.ref (ad 0)), (2, Value.ref (ad 162)), (3, Value.ref (ad 163)), (4, Value.ref (ad 164)), (6, vI x100), (7, vI x103), (8, vI x106)]) (fun x117 => [vI x117, vI x113]) h ?_ ?_
                          · clear h
                            intro x117 h
                            refine a_icmp_ne (pc := 863) a h.1 h.2.1 dL_isSo_863 (tgt := 870) (by decide) (fun hq => ?_) (fun hq => ?_)
                            · replace h := h.2.2.1 hq
                              clear hq
                              refine a_iconst (pc := 870) a dL_isSo_870 ?_
                              refine a_istore (pc := 871) a (ls1 := [(5, vI 0), (0, Value.ref (ad 0)), (2, Value.ref (ad 162)), (3, Value.ref (ad 163)), (4, Value.ref (ad 164)), (6, vI x100), (7, vI x103), (8, vI x106)]) dL_isSo_871 (by decide) rfl ?_
                              refine a_iinc (pc := 873) a (ls1 := [(8, vI (x106 + 1)), (5, vI 0), (0, Value.ref (ad 0)), (2, Value.ref (ad 162)), (3, Value.ref (ad 163)), (4, Value.ref (ad 164)), (6, vI x100), (7, vI x103)]) 7 dL_isSo_873 rfl (by decide) rfl ?_
                              refine a_goto (pc := 876) a dL_isSo_876 (tgt := 807) (by decide) ?_
                              refine a_sub (ls1 := [(0, Value.ref (ad 0)), (2, Value.ref (ad 162)), (3, Value.ref (ad 163)), (4, Value.ref (ad 164)), (5, vI 0), (6, vI x100), (7, vI x103), (8, vI (x106 + 1))]) [2, 3, 4, 5, 1, 6, 7, 0] rfl ?_
                              refine a_wid (c_k807 + 2) (s_k807 + 12) (by omega) (by omega) ?_
                              exact hag807 0 (x106 + 1) s114 h
                            · replace h := h.2.2.2 hq
                              clear hq
                              refine a_iconst (pc := 866) a dL_isSo_866 ?_
                              refine a_goto (pc := 867) a dL_isSo_867 (tgt := 871) (by decide) ?_
                              refine a_istore (pc := 871) a (ls1 := [(5, vI 1), (0, Value.ref (ad 0)), (2, Value.ref (ad 162)), (3, Value.ref (ad 163)), (4, Value.ref (ad 164)), (6, vI x100), (7, vI x103), (8, vI x106)]) dL_isSo_871 (by decide) rfl ?_
                              refine a_iinc (pc := 873) a (ls1 := [(8, vI (x106 + 1)), (5, vI 1), (0, Value.ref (ad 0)), (2, Value.ref (ad 162)), (3, Value.ref (ad 163)), (4, Value.ref (ad 164)), (6, vI x100), (7, vI x103)]) 7 dL_isSo_873 rfl (by decide) rfl ?_
                              refine a_goto (pc := 876) a dL_isSo_876 (tgt := 807) (by decide) ?_
                              refine a_sub (ls1 := [(0, Value.ref (ad 0)), (2, Value.ref (ad 162)), (3, Value.ref (ad 163)), (4, Value.ref (ad 164)), (5, vI 1), (6, vI x100), (7, vI x103), (8, vI (x106 + 1))]) [2, 3, 4, 5, 1, 6, 7, 0] rfl ?_
                              refine a_wid (c_k807 + 2) (s_k807 + 12) (by omega) (by omega) ?_
                              exact hag807 1 (x106 + 1) s114 h
                          · clear h
                            intro jj863 hjj863 h
                            refine g_wj0 853 (c_k807 + 2) (s_k807 + 12) [(0, Value.ref (ad 0)), (2, Value.ref (ad 162)), (3, Value.ref (ad 163)), (4, Value.ref (ad 164)), (6, vI x100), (7, vI x103), (8, vI x106)] [vI x113] h ?_ ?_
                            · clear h
                              intro  h
                              refine a_aload_n (pc := 853) a 1 dL_isSo_853 rfl rfl ?_
                              refine a_bipush (pc := 854) a dL_isSo_854 (by decide) ?_
                              refine a_iload (pc := 856) a 4 dL_isSo_856 rfl ?_
                              refine a_imul (pc := 858) a dL_isSo_858 ?_
                              refine a_iload (pc := 859) a 6 dL_isSo_859 rfl ?_
                              refine a_iadd (pc := 861) a dL_isSo_861 ?_
                              refine a_iald (pc := 862) a (tw hinj w3) (by decide) h.1 dL_isSo_862 ?_
                              replace h := h.2
                              exact hjj863 (s114 162 ((8 * x100) + x106)) h
                            · clear h
                              intro jj853 hjj853 h
                              refine a_icmp_le (pc := 830) a h.1 ⟨by decide, by decide⟩ dL_isSo_830 (tgt := 853) (by decide) (fun hq => ?_) (fun hq => ?_)
                              · replace h := h.2.1 hq
                                clear hq
                                refine a_sub (ls1 := [(0, Value.ref (ad 0)), (2, Value.ref (ad 162)), (3, Value.ref (ad 163)), (4, Value.ref (ad 164)), (6, vI x100), (7, vI x103), (8, vI x106)]) [0, 1, 2, 3, 5, 6, 7] rfl ?_
                                refine a_wid (c_k807 + 2) (s_k807 + 12) (by omega) (by omega) ?_
                                exact hjj853  h
                              · replace h := h.2.2 hq
                                clear hq
                                refine a_iload (pc := 833) a 7 dL_isSo_833 rfl ?_
                                refine a_iconst (pc := 835) a dL_isSo_835 ?_
                                refine a_isub (pc := 836) a dL_isSo_836 ?_
                                refine a_aload_n (pc := 837) a 1 dL_isSo_837 rfl rfl ?_
                                refine a_bipush (pc := 838) a dL_isSo_838 (by decide) ?_
                                refine a_iload (pc := 840) a 5 dL_isSo_840 rfl ?_
                                refine a_imul (pc := 842) a dL_isSo_842 ?_
                                refine a_iconst (pc := 843) a dL_isSo_843 ?_
                                refine a_iadd (pc := 844) a dL_isSo_844 ?_
                                refine a_iald (pc := 845) a (tw hinj w3) (by decide) h.1 dL_isSo_845 ?_
                                replace h := h.2
                                refine a_icmp_lt (pc := 846) a h.1 h.2.1 dL_isSo_846 (tgt := 853) (by decide) (fun hq => ?_) (fun hq => ?_)
                                · replace h := h.2.2.1 hq
                                  clear hq
                                  refine a_sub (ls1 := [(0, Value.ref (ad 0)), (2, Value.ref (ad 162)), (3, Value.ref (ad 163)), (4, Value.ref (ad 164)), (6, vI x100), (7, vI x103), (8, vI x106)]) [0, 1, 2, 3, 5, 6, 7] rfl ?_
                                  refine a_wid (c_k807 + 2) (s_k807 + 12) (by omega) (by omega) ?_
                                  exact hjj853  h
                                · replace h := h.2.2.2 hq
                                  clear hq
                                  refine a_iconst (pc := 849) a dL_isSo_849 ?_
                                  refine a_goto (pc := 850) a dL_isSo_850 (tgt := 863) (by decide) ?_
                                  refine a_sub (ls1 := [(0, Value.ref (ad 0)), (2, Value.ref (ad 162)), (3, Value.ref (ad 163)), (4, Value.ref (ad 164)), (6, vI x100), (7, vI x103), (8, vI x106)]) [0, 1, 2, 3, 5, 6, 7] rfl ?_
                                  refine a_wid (c_k807 + 2) (s_k807 + 12) (by omega) (by omega) ?_
                                  exact hjj863 (-1) h
                    · replace h := h.2.2.2 hq
                      clear hq
                      refine a_iload (pc := 751) a 6 dL_isSo_751 rfl ?_
                      refine a_aload (pc := 753) a 3 dL_isSo_753 rfl ?_
                      refine a_bipush (pc := 755) a dL_isSo_755 (by decide) ?_
                      refine a_iload (pc := 757) a 7 dL_isSo_757 rfl ?_
                      refine a_iadd (pc := 759) a dL_isSo_759 ?_
                      refine a_iald (pc := 760) a (tw hinj w5) (by decide) h.1 dL_isSo_760 ?_
                      replace h := h.2
                      refine a_sipush (pc := 761) a dL_isSo_761 (by decide) ?_
                      refine a_idiv (pc := 764) a dL_isSo_764 h.1 (by decide) ?_
                      replace h := h.2
                      refine a_if_ne (pc := 765) a h.1 dL_isSo_765 (tgt := 794) (by decide) (fun hq => ?_) (fun hq => ?_)
                      · replace h := h.2.1 hq
                        clear hq
                        refine a_iconst (pc := 794) a dL_isSo_794 ?_
                        refine a_iadd (pc := 795) a dL_isSo_795 ?_
                        refine a_nm (fun x118 hx => ?_)
                        replace h := h x118 hx
                        clear hx
                        refine a_istore (pc := 796) a (ls1 := [(7, vI x118), (0, Value.ref (ad 0)), (2, Value.ref (ad 162)), (3, Value.ref (ad 163)), (4, Value.ref (ad 164)), (5, vI x99), (6, vI x100), (8, vI x104)]) dL_isSo_796 (by decide) rfl ?_
                        refine a_iinc (pc := 798) a (ls1 := [(8, vI (x104 + 1)), (7, vI x118), (0, Value.ref (ad 0)), (2, Value.ref (ad 162)), (3, Value.ref (ad 163)), (4, Value.ref (ad 164)), (5, vI x99), (6, vI x100)]) 7 dL_isSo_798 rfl (by decide) rfl ?_
                        refine a_goto (pc := 801) a dL_isSo_801 (tgt := 742) (by decide) ?_
                        refine a_sub (ls1 := [(0, Value.ref (ad 0)), (2, Value.ref (ad 162)), (3, Value.ref (ad 163)), (4, Value.ref (ad 164)), (5, vI x99), (6, vI x100), (7, vI x118), (8, vI (x104 + 1))]) [2, 3, 4, 5, 6, 7, 1, 0] rfl ?_
                        exact hag742 x118 (x104 + 1) h
                      · replace h := h.2.2 hq
                        clear hq
                        refine a_aload (pc := 768) a 3 dL_isSo_768 rfl ?_
                        refine a_bipush (pc := 770) a dL_isSo_770 (by decide) ?_
                        refine a_iload (pc := 772) a 7 dL_isSo_772 rfl ?_
                        refine a_iadd (pc := 774) a dL_isSo_774 ?_
                        refine a_iald (pc := 775) a (tw hinj w5) (by decide) h.1 dL_isSo_775 ?_
                        replace h := h.2
                        refine a_sipush (pc := 776) a dL_isSo_776 (by decide) ?_
                        refine a_idiv (pc := 779) a dL_isSo_779 h.1 (by decide) ?_
                        replace h := h.2
                        refine a_bipush (pc := 780) a dL_isSo_780 (by decide) ?_
                        refine a_irem (pc := 782) a dL_isSo_782 h.1 (by decide) ?_
                        replace h := h.2
                        refine a_iload (pc := 783) a 5 dL_isSo_783 rfl ?_
                        refine a_iconst (pc := 785) a dL_isSo_785 ?_
                        refine a_iadd (pc := 786) a dL_isSo_786 ?_
                        refine a_icmp_ne (pc := 787) a h.1 h.2.1 dL_isSo_787 (tgt := 794) (by decide) (fun hq => ?_) (fun hq => ?_)
                        · replace h := h.2.2.1 hq
                          clear hq
                          refine a_iconst (pc := 794) a dL_isSo_794 ?_
                          refine a_iadd (pc := 795) a dL_isSo_795 ?_
                          refine a_nm (fun x119 hx => ?_)
                          replace h := h x119 hx
                          clear hx
                          refine a_istore (pc := 796) a (ls1 := [(7, vI x119), (0, Value.ref (ad 0)), (2, Value.ref (ad 162)), (3, Value.ref (ad 163)), (4, Value.ref (ad 164)), (5, vI x99), (6, vI x100), (8, vI x104)]) dL_isSo_796 (by decide) rfl ?_
                          refine a_iinc (pc := 798) a (ls1 := [(8, vI (x104 + 1)), (7, vI x119), (0, Value.ref (ad 0)), (2, Value.ref (ad 162)), (3, Value.ref (ad 163)), (4, Value.ref (ad 164)), (5, vI x99), (6, vI x100)]) 7 dL_isSo_798 rfl (by decide) rfl ?_
                          refine a_goto (pc := 801) a dL_isSo_801 (tgt := 742) (by decide) ?_
                          refine a_sub (ls1 := [(0, Value.ref (ad 0)), (2, Value.ref (ad 162)), (3, Value.ref (ad 163)), (4, Value.ref (ad 164)), (5, vI x99), (6, vI x100), (7, vI x119), (8, vI (x104 + 1))]) [2, 3, 4, 5, 6, 7, 1, 0] rfl ?_
                          exact hag742 x119 (x104 + 1) h
                        · replace h := h.2.2.2 hq
                          clear hq
                          refine a_iconst (pc := 790) a dL_isSo_790 ?_
                          refine a_goto (pc := 791) a dL_isSo_791 (tgt := 795) (by decide) ?_
                          refine a_iadd (pc := 795) a dL_isSo_795 ?_
                          refine a_nm (fun x120 hx => ?_)
                          replace h := h x120 hx
                          clear hx
                          refine a_istore (pc := 796) a (ls1 := [(7, vI x120), (0, Value.ref (ad 0)), (2, Value.ref (ad 162)), (3, Value.ref (ad 163)), (4, Value.ref (ad 164)), (5, vI x99), (6, vI x100), (8, vI x104)]) dL_isSo_796 (by decide) rfl ?_
                          refine a_iinc (pc := 798) a (ls1 := [(8, vI (x104 + 1)), (7, vI x120), (0, Value.ref (ad 0)), (2, Value.ref (ad 162)), (3, Value.ref (ad 163)), (4, Value.ref (ad 164)), (5, vI x99), (6, vI x100)]) 7 dL_isSo_798 rfl (by decide) rfl ?_
                          refine a_goto (pc := 801) a dL_isSo_801 (tgt := 742) (by decide) ?_
                          refine a_sub (ls1 := [(0, Value.ref (ad 0)), (2, Value.ref (ad 162)), (3, Value.ref (ad 163)), (4, Value.ref (ad 164)), (5, vI x99), (6, vI x100), (7, vI x120), (8, vI (x104 + 1))]) [2, 3, 4, 5, 6, 7, 1, 0] rfl ?_
                          exact hag742 x120 (x104 + 1) h
            · clear h
              intro jj722 hjj722 h
              refine a_icmp_ge (pc := 534) a h.1 h.2.1 dL_isSo_534 (tgt := 722) (by decide) (fun hq => ?_) (fun hq => ?_)
              · replace h := h.2.2.1 hq
                clear hq
                refine a_wid 769 4942 (by omega) (by omega) ?_
                refine a_sub (ls1 := [(0, Value.ref (ad 0)), (2, Value.ref (ad 162)), (3, Value.ref (ad 163)), (4, Value.ref (ad 164)), (5, vI x77)]) [0, 2, 3, 4, 5] rfl ?_
                exact hjj722  h
              · replace h := h.2.2.2 hq
                clear hq
                refine a_iload (pc := 537) a 5 dL_isSo_537 rfl ?_
                refine a_if_eq (pc := 539) a h.1 dL_isSo_539 (tgt := 722) (by decide) (fun hq => ?_) (fun hq => ?_)
                · replace h := h.2.1 hq
                  clear hq
                  refine a_wid 769 4942 (by omega) (by omega) ?_
                  refine a_sub (ls1 := [(0, Value.ref (ad 0)), (2, Value.ref (ad 162)), (3, Value.ref (ad 163)), (4, Value.ref (ad 164)), (5, vI x77)]) [0, 2, 3, 4, 5] rfl ?_
                  exact hjj722  h
                · replace h := h.2.2 hq
                  clear hq
                  refine a_iconst (pc := 542) a dL_isSo_542 ?_
                  refine a_istore (pc := 543) a (ls1 := [(7, vI (-1)), (0, Value.ref (ad 0)), (1, Value.ref (ad 161)), (2, Value.ref (ad 162)), (3, Value.ref (ad 163)), (4, Value.ref (ad 164)), (5, vI x77), (6, vI x78)]) dL_isSo_543 (by decide) rfl ?_
                  refine a_iconst (pc := 545) a dL_isSo_545 ?_
                  refine a_istore (pc := 546) a (ls1 := [(8, vI 0), (7, vI (-1)), (0, Value.ref (ad 0)), (1, Value.ref (ad 161)), (2, Value.ref (ad 162)), (3, Value.ref (ad 163)), (4, Value.ref (ad 164)), (5, vI x77), (6, vI x78)]) dL_isSo_546 (by decide) rfl ?_
                  refine a_sub (ls1 := [(0, Value.ref (ad 0)), (1, Value.ref (ad 161)), (2, Value.ref (ad 162)), (3, Value.ref (ad 163)), (4, Value.ref (ad 164)), (5, vI x77), (6, vI x78), (7, vI (-1)), (8, vI 0)]) [2, 3, 4, 5, 6, 7, 8, 1, 0] rfl ?_
                  refine g_wl2 (fun x81 x82 => [(0, Value.ref (ad 0)), (1, Value.ref (ad 161)), (2, Value.ref (ad 162)), (3, Value.ref (ad 163)), (4, Value.ref (ad 164)), (5, vI x77), (6, vI x78), (7, vI x81), (8, vI x82)]) h ?_
                  clear h
                  intro x81 x82 ag548 hag548 h
                  refine a_iload (pc := 548) a 8 dL_isSo_548 rfl ?_
                  refine a_aload (pc := 550) a 4 dL_isSo_550 rfl ?_
                  refine a_iconst (pc := 552) a dL_isSo_552 ?_
                  refine a_iald (pc := 553) a (tw hinj w5) (by decide) (by decide) dL_isSo_553 ?_
                  refine a_icmp_ge (pc := 554) a h.1 h.2.1 dL_isSo_554 (tgt := 586) (by decide) (fun hq => ?_) (fun hq => ?_)
                  · replace h := h.2.2.1 hq
                    clear hq
                    refine a_iconst (pc := 586) a dL_isSo_586 ?_
                    refine a_istore (pc := 587) a (ls1 := [(8, vI 0), (0, Value.ref (ad 0)), (1, Value.ref (ad 161)), (2, Value.ref (ad 162)), (3, Value.ref (ad 163)), (4, Value.ref (ad 164)), (5, vI x77), (6, vI x78), (7, vI x81)]) dL_isSo_587 (by decide) rfl ?_
                    refine a_sub (ls1 := [(0, Value.ref (ad 0)), (1, Value.ref (ad 161)), (2, Value.ref (ad 162)), (3, Value.ref (ad 163)), (4, Value.ref (ad 164)), (5, vI x77), (6, vI x78), (7, vI x81), (8, vI 0)]) [1, 2, 3, 4, 5, 6, 7, 8, 0] rfl ?_
                    refine g_wb2s 6 2 12 12 72 (fun x83 x84 => [(0, Value.ref (ad 0)), (1, Value.ref (ad 161)), (2, Value.ref (ad 162)), (3, Value.ref (ad 163)), (4, Value.ref (ad 164)), (5, vI x83), (6, vI x78), (7, vI x81), (8, vI x84)]) h (by decide) (by decide) ?_
                    clear h
                    intro x83 x84 s85 ag589 c_k589 s_k589 hc_k589 hs_k589 hag589 h
                    refine a_iload (pc := 589) a 8 dL_isSo_589 rfl ?_
                    refine a_iconst (pc := 591) a dL_isSo_591 ?_
                    refine a_icmp_ge (pc := 592) a h.1 ⟨by decide, by decide⟩ dL_isSo_592 (tgt := 633) (by decide) (fun hq => ?_) (fun hq => ?_)
                    · replace h := h.2.1 hq
                      clear hq
                      refine a_wid (c_k528 + 12) (s_k528 + 72) (by omega) (by omega) ?_
                      refine a_iload (pc := 633) a 5 dL_isSo_633 rfl ?_
                      refine a_if_eq (pc := 635) a h.1 dL_isSo_635 (tgt := 713) (by decide) (fun hq => ?_) (fun hq => ?_)
                      · replace h := h.2.1 hq
                        clear hq
                        refine a_iconst (pc := 713) a dL_isSo_713 ?_
                        refine a_istore (pc := 714) a (ls1 := [(5, vI 0), (0, Value.ref (ad 0)), (1, Value.ref (ad 161)), (2, Value.ref (ad 162)), (3, Value.ref (ad 163)), (4, Value.ref (ad 164)), (6, vI x78), (7, vI x81), (8, vI x84)]) dL_isSo_714 (by decide) rfl ?_
                        refine a_iinc (pc := 716) a (ls1 := [(6, vI (x78 + 1)), (5, vI 0), (0, Value.ref (ad 0)), (1, Value.ref (ad 161)), (2, Value.ref (ad 162)), (3, Value.ref (ad 163)), (4, Value.ref (ad 164)), (7, vI x81), (8, vI x84)]) 6 dL_isSo_716 rfl (by decide) rfl ?_
                        refine a_goto (pc := 719) a dL_isSo_719 (tgt := 528) (by decide) ?_
                        refine a_sub (ls1 := [(0, Value.ref (ad 0)), (1, Value.ref (ad 161)), (2, Value.ref (ad 162)), (3, Value.ref (ad 163)), (4, Value.ref (ad 164)), (5, vI 0), (6, vI (x78 + 1))]) [2, 3, 4, 5, 6, 1, 0] rfl ?_
                        refine a_wid (c_k528 + 20) (s_k528 + 120) (by omega) (by omega) ?_
                        exact hag528 0 (x78 + 1) s85 h
                      · replace h := h.2.2 hq
                        clear hq
                        refine a_aload_n (pc := 638) a 0 dL_isSo_638 rfl rfl ?_
                        refine a_iload (pc := 639) a 6 dL_isSo_639 rfl ?_
                        refine a_iconst (pc := 641) a dL_isSo_641 ?_
                        refine a_cwi (pc := 642) a (As := [Value.ref (ad 0), vI x78, vI 5]) (rest := []) (fun sz => c_L_signOf hinj hl0  h sz) (vx_cwSW 3 hts (gl_S (GL_16 _ (by decide +kernel)) (GL_16 _ (by decide +kernel)) (GL_4 _ (by decide +kernel)) (GL_16 _ (by decide +kernel))) rfl rfl rfl (by decide +kernel) ⟨Nat.le_of_ble_eq_true rfl, Nat.le_of_ble_eq_true rfl⟩) rfl rfl (Nat.le_of_ble_eq_true rfl) ⟨by show c_k528 + 12 + 2 ≤ 882; omega, by show s_k528 + 72 + 12 ≤ 5620; omega⟩ dL_isSo_642 ?_
                        clear h
                        intro x86 s87 h
                        refine a_aload_n (pc := 645) a 2 dL_isSo_645 rfl rfl ?_
                        refine a_aload_n (pc := 646) a 3 dL_isSo_646 rfl rfl ?_
                        refine a_iload (pc := 647) a 6 dL_isSo_647 rfl ?_
                        refine a_csi (pc := 649) a (As := [Value.ref (ad 162), Value.ref (ad 163), vI x78]) (rest := [vI x86]) (fun sz => c_L_classOf hinj hl0  h sz) (va_cwS 3 hts (gl_S (GL_6 _ (by decide +kernel)) (GL_6 _ (by decide +kernel)) (GL_4 _ (by decide +kernel)) (GL_6 _ (by decide +kernel))) rfl rfl rfl (by decide +kernel) ⟨Nat.le_of_ble_eq_true rfl, Nat.le_of_ble_eq_true rfl⟩) rfl rfl (Nat.le_of_ble_eq_true rfl) ⟨by show c_k528 + 12 + 2 + 0 ≤ 882; omega, by show s_k528 + 72 + 12 + 0 ≤ 5620; omega⟩ dL_isSo_649 ?_
                        rintro x88 s9 ⟨hs9, h9⟩
                        subst s9
                        replace h := h9
                        clear h9
                        refine a_icmp_ne (pc := 652) a h.1 h.2.1 dL_isSo_652 (tgt := 713) (by decide) (fun hq => ?_) (fun hq => ?_)
                        · replace h := h.2.2.1 hq
                          clear hq
                          refine a_iconst (pc := 713) a dL_isSo_713 ?_
                          refine a_istore (pc := 714) a (ls1 := [(5, vI 0), (0, Value.ref (ad 0)), (1, Value.ref (ad 161)), (2, Value.ref (ad 162)), (3, Value.ref (ad 163)), (4, Value.ref (ad 164)), (6, vI x78), (7, vI x81), (8, vI x84)]) dL_isSo_714 (by decide) rfl ?_
                          refine a_iinc (pc := 716) a (ls1 := [(6, vI (x78 + 1)), (5, vI 0), (0, Value.ref (ad 0)), (1, Value.ref (ad 161)), (2, Value.ref (ad 162)), (3, Value.ref (ad 163)), (4, Value.ref (ad 164)), (7, vI x81), (8, vI x84)]) 6 dL_isSo_716 rfl (by decide) rfl ?_
                          refine a_goto (pc := 719) a dL_isSo_719 (tgt := 528) (by decide) ?_
                          refine a_sub (ls1 := [(0, Value.ref (ad 0)), (1, Value.ref (ad 161)), (2, Value.ref (ad 162)), (3, Value.ref (ad 163)), (4, Value.ref (ad 164)), (5, vI 0), (6, vI (x78 + 1))]) [2, 3, 4, 5, 6, 1, 0] rfl ?_
                          refine a_wid (c_k528 + 20) (s_k528 + 120) (by omega) (by omega) ?_
                          exact hag528 0 (x78 + 1) s87 h
                        · replace h := h.2.2.2 hq
                          clear hq
                          refine a_aload_n (pc := 655) a 0 dL_isSo_655 rfl rfl ?_
                          refine a_iload (pc := 656) a 6 dL_isSo_656 rfl ?_
                          refine a_bipush (pc := 658) a dL_isSo_658 (by decide) ?_
                          refine a_cwi (pc := 660) a (As := [Value.ref (ad 0), vI x78, vI 6]) (rest := []) (fun sz => c_L_signOf hinj hl0  h sz) (vx_cwSW 3 hts (gl_S (GL_16 _ (by decide +kernel)) (GL_16 _ (by decide +kernel)) (GL_4 _ (by decide +kernel)) (GL_16 _ (by decide +kernel))) rfl rfl rfl (by decide +kernel) ⟨Nat.le_of_ble_eq_true rfl, Nat.le_of_ble_eq_true rfl⟩) rfl rfl (Nat.le_of_ble_eq_true rfl) ⟨by show c_k528 + 12 + 2 + 0 + 2 ≤ 882; omega, by show s_k528 + 72 + 12 + 0 + 12 ≤ 5620; omega⟩ dL_isSo_660 ?_
                          clear h
                          intro x89 s90 h
                          refine a_aload_n (pc := 663) a 1 dL_isSo_663 rfl rfl ?_
                          refine a_aload_n (pc := 664) a 3 dL_isSo_664 rfl rfl ?_
                          refine a_csi (pc := 665) a (As := [Value.ref (ad 161), Value.ref (ad 163)]) (rest := [vI x89]) (fun sz => c_L_shown hinj hl0  h sz) (va_cwS 2 hts (gl_S (GL_5 _ (by decide +kernel)) (GL_5 _ (by decide +kernel)) (GL_4 _ (by decide +kernel)) (GL_5 _ (by decide +kernel))) rfl rfl rfl (by decide +kernel) ⟨Nat.le_of_ble_eq_true rfl, Nat.le_of_ble_eq_true rfl⟩) rfl rfl (Nat.le_of_ble_eq_true rfl) ⟨by show c_k528 + 12 + 2 + 0 + 2 + 0 ≤ 882; omega, by show s_k528 + 72 + 12 + 0 + 12 + 0 ≤ 5620; omega⟩ dL_isSo_665 ?_
                          rintro x91 s9 ⟨hs9, h9⟩
                          subst s9
                          replace h := h9
                          clear h9
                          refine a_iload (pc := 668) a 6 dL_isSo_668 rfl ?_
                          refine a_ishr (pc := 670) a dL_isSo_670 ?_
                          refine a_iconst (pc := 671) a dL_isSo_671 ?_
                          refine a_iand (pc := 672) a dL_isSo_672 ?_
                          refine a_icmp_ne (pc := 673) a h.1 h.2.1 dL_isSo_673 (tgt := 713) (by decide) (fun hq => ?_) (fun hq => ?_)
                          · replace h := h.2.2.1 hq
                            clear hq
                            refine a_iconst (pc := 713) a dL_isSo_713 ?_
                            refine a_istore (pc := 714) a (ls1 := [(5, vI 0), (0, Value.ref (ad 0)), (1, Value.ref (ad 161)), (2, Value.ref (ad 162)), (3, Value.ref (ad 163)), (4, Value.ref (ad 164)), (6, vI x78), (7, vI x81), (8, vI x84)]) dL_isSo_714 (by decide) rfl ?_
                            refine a_iinc (pc := 716) a (ls1 := [(6, vI (x78 + 1)), (5, vI 0), (0, Value.ref (ad 0)), (1, Value.ref (ad 161)), (2, Value.ref (ad 162)), (3, Value.ref (ad 163)), (4, Value.ref (ad 164)), (7, vI x81), (8, vI x84)]) 6 dL_isSo_716 rfl (by decide) rfl ?_
                            refine a_goto (pc := 719) a dL_isSo_719 (tgt := 528) (by decide) ?_
                            refine a_sub (ls1 := [(0, Value.ref (ad 0)), (1, Value.ref (ad 161)), (2, Value.ref (ad 162)), (3, Value.ref (ad 163)), (4, Value.ref (ad 164)), (5, vI 0), (6, vI (x78 + 1))]) [2, 3, 4, 5, 6, 1, 0] rfl ?_
                            refine a_wid (c_k528 + 20) (s_k528 + 120) (by omega) (by omega) ?_
                            exact hag528 0 (x78 + 1) s90 h
                          · replace h := h.2.2.2 hq
                            clear hq
                            refine a_aload_n (pc := 676) a 0 dL_isSo_676 rfl rfl ?_
                            refine a_iload (pc := 677) a 6 dL_isSo_677 rfl ?_
                            refine a_bipush (pc := 679) a dL_isSo_679 (by decide) ?_
                            refine a_cwi (pc := 681) a (As := [Value.ref (ad 0), vI x78, vI 7]) (rest := []) (fun sz => c_L_signOf hinj hl0  h sz) (vx_cwSW 3 hts (gl_S (GL_16 _ (by decide +kernel)) (GL_16 _ (by decide +kernel)) (GL_4 _ (by decide +kernel)) (GL_16 _ (by decide +kernel))) rfl rfl rfl (by decide +kernel) ⟨Nat.le_of_ble_eq_true rfl, Nat.le_of_ble_eq_true rfl⟩) rfl rfl (Nat.le_of_ble_eq_true rfl) ⟨by show c_k528 + 12 + 2 + 0 + 2 + 0 + 2 ≤ 882; omega, by show s_k528 + 72 + 12 + 0 + 12 + 0 + 12 ≤ 5620; omega⟩ dL_isSo_681 ?_
                            clear h
                            intro x92 s93 h
                            refine a_aload (pc := 684) a 4 dL_isSo_684 rfl ?_
                            refine a_iconst (pc := 686) a dL_isSo_686 ?_
                            refine a_iald (pc := 687) a (tw hinj w5) (by decide) (by decide) dL_isSo_687 ?_
                            refine a_iload (pc := 688) a 6 dL_isSo_688 rfl ?_
                            refine a_ishr (pc := 690) a dL_isSo_690 ?_
                            refine a_iconst (pc := 691) a dL_isSo_691 ?_
                            refine a_iand (pc := 692) a dL_isSo_692 ?_
                            refine a_icmp_ne (pc := 693) a h.1 h.2.1 dL_isSo_693 (tgt := 713) (by decide) (fun hq => ?_) (fun hq => ?_)
                            · replace h := h.2.2.1 hq
                              clear hq
                              refine a_iconst (pc := 713) a dL_isSo_713 ?_
                              refine a_istore (pc := 714) a (ls1 := [(5, vI 0), (0, Value.ref (ad 0)), (1, Value.ref (ad 161)), (2, Value.ref (ad 162)), (3, Value.ref (ad 163)), (4, Value.ref (ad 164)), (6, vI x78), (7, vI x81), (8, vI x84)]) dL_isSo_714 (by decide) rfl ?_
                              refine a_iinc (pc := 716) a (ls1 := [(6, vI (x78 + 1)), (5, vI 0), (0, Value.ref (ad 0)), (1, Value.ref (ad 161)), (2, Value.ref (ad 162)), (3, Value.ref (ad 163)), (4, Value.ref (ad 164)), (7, vI x81), (8, vI x84)]) 6 dL_isSo_716 rfl (by decide) rfl ?_
                              refine a_goto (pc := 719) a dL_isSo_719 (tgt := 528) (by decide) ?_
                              refine a_sub (ls1 := [(0, Value.ref (ad 0)), (1, Value.ref (ad 161)), (2, Value.ref (ad 162)), (3, Value.ref (ad 163)), (4, Value.ref (ad 164)), (5, vI 0), (6, vI (x78 + 1))]) [2, 3, 4, 5, 6, 1, 0] rfl ?_
                              refine a_wid (c_k528 + 20) (s_k528 + 120) (by omega) (by omega) ?_
                              exact hag528 0 (x78 + 1) s93 h
                            · replace h := h.2.2.2 hq
                              clear hq
                              refine a_aload_n (pc := 696) a 0 dL_isSo_696 rfl rfl ?_
                              refine a_iload (pc := 697) a 6 dL_isSo_697 rfl ?_
                              refine a_bipush (pc := 699) a dL_isSo_699 (by decide) ?_
                              refine a_cwi (pc := 701) a (As := [Value.ref (ad 0), vI x78, vI 8]) (rest := []) (fun sz => c_L_signOf hinj hl0  h sz) (vx_cwSW 3 hts (gl_S (GL_16 _ (by decide +kernel)) (GL_16 _ (by decide +kernel)) (GL_4 _ (by decide +kernel)) (GL_16 _ (by decide +kernel))) rfl rfl rfl (by decide +kernel) ⟨Nat.le_of_ble_eq_true rfl, Nat.le_of_ble_eq_true rfl⟩) rfl rfl (Nat.le_of_ble_eq_true rfl) ⟨by show c_k528 + 12 + 2 + 0 + 2 + 0 + 2 + 2 ≤ 882; omega, by show s_k528 + 72 + 12 + 0 + 12 + 0 + 12 + 12 ≤ 5620; omega⟩ dL_isSo_701 ?_
                              clear h
                              intro x94 s95 h
                              refine a_iload (pc := 704) a 7 dL_isSo_704 rfl ?_
                              refine a_icmp_ne (pc := 706) a h.1 h.2.1 dL_isSo_706 (tgt := 713) (by decide) (fun hq => ?_) (fun hq => ?_)
                              · replace h := h.2.2.1 hq
                                clear hq
                                refine a_iconst (pc := 713) a dL_isSo_713 ?_
                                refine a_istore (pc := 714) a (ls1 := [(5, vI 0), (0, Value.ref (ad 0)), (1, Value.ref (ad 161)), (2, Value.ref (ad 162)), (3, Value.ref (ad 163)), (4, Value.ref (ad 164)), (6, vI x78), (7, vI x81), (8, vI x84)]) dL_isSo_714 (by decide) rfl ?_
                                refine a_iinc (pc := 716) a (ls1 := [(6, vI (x78 + 1)), (5, vI 0), (0, Value.ref (ad 0)), (1, Value.ref (ad 161)), (2, Value.ref (ad 162)), (3, Value.ref (ad 163)), (4, Value.ref (ad 164)), (7, vI x81), (8, vI x84)]) 6 dL_isSo_716 rfl (by decide) rfl ?_
                                refine a_goto (pc := 719) a dL_isSo_719 (tgt := 528) (by decide) ?_
                                refine a_sub (ls1 := [(0, Value.ref (ad 0)), (1, Value.ref (ad 161)), (2, Value.ref (ad 162)), (3, Value.ref (ad 163)), (4, Value.ref (ad 164)), (5, vI 0), (6, vI (x78 + 1))]) [2, 3, 4, 5, 6, 1, 0] rfl ?_
                                refine a_wid (c_k528 + 20) (s_k528 + 120) (by omega) (by omega) ?_
                                exact hag528 0 (x78 + 1) s95 h
                              · replace h := h.2.2.2 hq
                                clear hq
                                refine a_iconst (pc := 709) a dL_isSo_709 ?_
                                refine a_goto (pc := 710) a dL_isSo_710 (tgt := 714) (by decide) ?_
                                refine a_istore (pc := 714) a (ls1 := [(5, vI 1), (0, Value.ref (ad 0)), (1, Value.ref (ad 161)), (2, Value.ref (ad 162)), (3, Value.ref (ad 163)), (4, Value.ref (ad 164)), (6, vI x78), (7, vI x81), (8, vI x84)]) dL_isSo_714 (by decide) rfl ?_
                                refine a_iinc (pc := 716) a (ls1 := [(6, vI (x78 + 1)), (5, vI 1), (0, Value.ref (ad 0)), (1, Value.ref (ad 161)), (2, Value.ref (ad 162)), (3, Value.ref (ad 163)), (4, Value.ref (ad 164)), (7, vI x81), (8, vI x84)]) 6 dL_isSo_716 rfl (by decide) rfl ?_
                                refine a_goto (pc := 719) a dL_isSo_719 (tgt := 528) (by decide) ?_
                                refine a_sub (ls1 := [(0, Value.ref (ad 0)), (1, Value.ref (ad 161)), (2, Value.ref (ad 162)), (3, Value.ref (ad 163)), (4, Value.ref (ad 164)), (5, vI 1), (6, vI (x78 + 1))]) [2, 3, 4, 5, 6, 1, 0] rfl ?_
                                refine a_wid (c_k528 + 20) (s_k528 + 120) (by omega) (by omega) ?_
                                exact hag528 1 (x78 + 1) s95 h
                    · replace h := h.2.2 hq
                      clear hq
                      refine a_iload (pc := 595) a 5 dL_isSo_595 rfl ?_
                      refine a_if_eq (pc := 597) a h.1 dL_isSo_597 (tgt := 624) (by decide) (fun hq => ?_) (fun hq => ?_)
                      · replace h := h.2.1 hq
                        clear hq
                        refine a_iconst (pc := 624) a dL_isSo_624 ?_
                        refine a_istore (pc := 625) a (ls1 := [(5, vI 0), (0, Value.ref (ad 0)), (1, Value.ref (ad 161)), (2, Value.ref (ad 162)), (3, Value.ref (ad 163)), (4, Value.ref (ad 164)), (6, vI x78), (7, vI x81), (8, vI x84)]) dL_isSo_625 (by decide) rfl ?_
                        refine a_iinc (pc := 627) a (ls1 := [(8, vI (x84 + 1)), (5, vI 0), (0, Value.ref (ad 0)), (1, Value.ref (ad 161)), (2, Value.ref (ad 162)), (3, Value.ref (ad 163)), (4, Value.ref (ad 164)), (6, vI x78), (7, vI x81)]) 8 dL_isSo_627 rfl (by decide) rfl ?_
                        refine a_goto (pc := 630) a dL_isSo_630 (tgt := 589) (by decide) ?_
                        refine a_sub (ls1 := [(0, Value.ref (ad 0)), (1, Value.ref (ad 161)), (2, Value.ref (ad 162)), (3, Value.ref (ad 163)), (4, Value.ref (ad 164)), (5, vI 0), (6, vI x78), (7, vI x81), (8, vI (x84 + 1))]) [2, 3, 4, 5, 6, 1, 7, 8, 0] rfl ?_
                        refine a_wid (c_k589 + 2) (s_k589 + 12) (by omega) (by omega) ?_
                        exact hag589 0 (x84 + 1) s85 h
                      · replace h := h.2.2 hq
                        clear hq
                        refine a_aload_n (pc := 600) a 0 dL_isSo_600 rfl rfl ?_
                        refine a_iload (pc := 601) a 6 dL_isSo_601 rfl ?_
                        refine a_iload (pc := 603) a 8 dL_isSo_603 rfl ?_
                        refine a_cwi (pc := 605) a (As := [Value.ref (ad 0), vI x78, vI x84]) (rest := []) (fun sz => c_L_signOf hinj hl0  h sz) (vx_cwSW 3 hts (gl_S (GL_16 _ (by decide +kernel)) (GL_16 _ (by decide +kernel)) (GL_4 _ (by decide +kernel)) (GL_16 _ (by decide +kernel))) rfl rfl rfl (by decide +kernel) ⟨Nat.le_of_ble_eq_true rfl, Nat.le_of_ble_eq_true rfl⟩) rfl rfl (Nat.le_of_ble_eq_true rfl) ⟨by show c_k589 + 2 ≤ 882; omega, by show s_k589 + 12 ≤ 5620; omega⟩ dL_isSo_605 ?_
                        clear h
                        intro x96 s97 h
                        refine a_aload_n (pc := 608) a 3 dL_isSo_608 rfl rfl ?_
                        refine a_iconst (pc := 609) a dL_isSo_609 ?_
                        refine a_iload (pc := 610) a 6 dL_isSo_610 rfl ?_
                        refine a_imul (pc := 612) a dL_isSo_612 ?_
                        refine a_iload (pc := 613) a 8 dL_isSo_613 rfl ?_
                        refine a_iadd (pc := 615) a dL_isSo_615 ?_
                        refine a_iald (pc := 616) a (tw hinj w4) (by decide) h.1 dL_isSo_616 ?_
                        replace h := h.2
                        refine a_icmp_ne (pc := 617) a h.1 h.2.1 dL_isSo_617 (tgt := 624) (by decide) (fun hq => ?_) (fun hq => ?_)
                        · replace h := h.2.2.1 hq
                          clear hq
                          refine a_iconst (pc := 624) a dL_isSo_624 ?_
                          refine a_istore (pc := 625) a (ls1 := [(5, vI 0), (0, Value.ref (ad 0)), (1, Value.ref (ad 161)), (2, Value.ref (ad 162)), (3, Value.ref (ad 163)), (4, Value.ref (ad 164)), (6, vI x78), (7, vI x81), (8, vI x84)]) dL_isSo_625 (by decide) rfl ?_
                          refine a_iinc (pc := 627) a (ls1 := [(8, vI (x84 + 1)), (5, vI 0), (0, Value.ref (ad 0)), (1, Value.ref (ad 161)), (2, Value.ref (ad 162)), (3, Value.ref (ad 163)), (4, Value.ref (ad 164)), (6, vI x78), (7, vI x81)]) 8 dL_isSo_627 rfl (by decide) rfl ?_
                          refine a_goto (pc := 630) a dL_isSo_630 (tgt := 589) (by decide) ?_
                          refine a_sub (ls1 := [(0, Value.ref (ad 0)), (1, Value.ref (ad 161)), (2, Value.ref (ad 162)), (3, Value.ref (ad 163)), (4, Value.ref (ad 164)), (5, vI 0), (6, vI x78), (7, vI x81), (8, vI (x84 + 1))]) [2, 3, 4, 5, 6, 1, 7, 8, 0] rfl ?_
                          refine a_wid (c_k589 + 2) (s_k589 + 12) (by omega) (by omega) ?_
                          exact hag589 0 (x84 + 1) s97 h
                        · replace h := h.2.2.2 hq
                          clear hq
                          refine a_iconst (pc := 620) a dL_isSo_620 ?_
                          refine a_goto (pc := 621) a dL_isSo_621 (tgt := 625) (by decide) ?_
                          refine a_istore (pc := 625) a (ls1 := [(5, vI 1), (0, Value.ref (ad 0)), (1, Value.ref (ad 161)), (2, Value.ref (ad 162)), (3, Value.ref (ad 163)), (4, Value.ref (ad 164)), (6, vI x78), (7, vI x81), (8, vI x84)]) dL_isSo_625 (by decide) rfl ?_
                          refine a_iinc (pc := 627) a (ls1 := [(8, vI (x84 + 1)), (5, vI 1), (0, Value.ref (ad 0)), (1, Value.ref (ad 161)), (2, Value.ref (ad 162)), (3, Value.ref (ad 163)), (4, Value.ref (ad 164)), (6, vI x78), (7, vI x81)]) 8 dL_isSo_627 rfl (by decide) rfl ?_
                          refine a_goto (pc := 630) a dL_isSo_630 (tgt := 589) (by decide) ?_
                          refine a_sub (ls1 := [(0, Value.ref (ad 0)), (1, Value.ref (ad 161)), (2, Value.ref (ad 162)), (3, Value.ref (ad 163)), (4, Value.ref (ad 164)), (5, vI 1), (6, vI x78), (7, vI x81), (8, vI (x84 + 1))]) [2, 3, 4, 5, 6, 1, 7, 8, 0] rfl ?_
                          refine a_wid (c_k589 + 2) (s_k589 + 12) (by omega) (by omega) ?_
                          exact hag589 1 (x84 + 1) s97 h
                  · replace h := h.2.2.2 hq
                    clear hq
                    refine a_aload_n (pc := 557) a 2 dL_isSo_557 rfl rfl ?_
                    refine a_aload_n (pc := 558) a 3 dL_isSo_558 rfl rfl ?_
                    refine a_aload (pc := 559) a 4 dL_isSo_559 rfl ?_
                    refine a_iload (pc := 561) a 8 dL_isSo_561 rfl ?_
                    refine a_iload (pc := 563) a 6 dL_isSo_563 rfl ?_
                    refine a_csi (pc := 565) a (As := [Value.ref (ad 162), Value.ref (ad 163), Value.ref (ad 164), vI x82, vI x78]) (rest := []) (fun sz => c_L_stands hinj hl0  h sz) (va_cwS 5 hts (gl_S (GL_15 _ (by decide +kernel)) (GL_15 _ (by decide +kernel)) (GL_4 _ (by decide +kernel)) (GL_15 _ (by decide +kernel))) rfl rfl rfl (by decide +kernel) ⟨Nat.le_of_ble_eq_true rfl, Nat.le_of_ble_eq_true rfl⟩) rfl rfl (Nat.le_of_ble_eq_true rfl) ⟨by show c_k528 + 0 ≤ 882; omega, by show s_k528 + 0 ≤ 5620; omega⟩ dL_isSo_565 ?_
                    rintro x98 s9 ⟨hs9, h9⟩
                    subst s9
                    replace h := h9
                    clear h9
                    refine a_if_eq (pc := 568) a h.1 dL_isSo_568 (tgt := 576) (by decide) (fun hq => ?_) (fun hq => ?_)
                    · replace h := h.2.1 hq
                      clear hq
                      refine a_iload (pc := 576) a 7 dL_isSo_576 rfl ?_
                      refine a_istore (pc := 578) a (ls1 := [(7, vI x81), (0, Value.ref (ad 0)), (1, Value.ref (ad 161)), (2, Value.ref (ad 162)), (3, Value.ref (ad 163)), (4, Value.ref (ad 164)), (5, vI x77), (6, vI x78), (8, vI x82)]) dL_isSo_578 (by decide) rfl ?_
                      refine a_iinc (pc := 580) a (ls1 := [(8, vI (x82 + 1)), (7, vI x81), (0, Value.ref (ad 0)), (1, Value.ref (ad 161)), (2, Value.ref (ad 162)), (3, Value.ref (ad 163)), (4, Value.ref (ad 164)), (5, vI x77), (6, vI x78)]) 8 dL_isSo_580 rfl (by decide) rfl ?_
                      refine a_goto (pc := 583) a dL_isSo_583 (tgt := 548) (by decide) ?_
                      refine a_sub (ls1 := [(0, Value.ref (ad 0)), (1, Value.ref (ad 161)), (2, Value.ref (ad 162)), (3, Value.ref (ad 163)), (4, Value.ref (ad 164)), (5, vI x77), (6, vI x78), (7, vI x81), (8, vI (x82 + 1))]) [2, 3, 4, 5, 6, 7, 8, 1, 0] rfl ?_
                      exact hag548 x81 (x82 + 1) h
                    · replace h := h.2.2 hq
                      clear hq
                      refine a_iload (pc := 571) a 8 dL_isSo_571 rfl ?_
                      refine a_goto (pc := 573) a dL_isSo_573 (tgt := 578) (by decide) ?_
                      refine a_istore (pc := 578) a (ls1 := [(7, vI x82), (0, Value.ref (ad 0)), (1, Value.ref (ad 161)), (2, Value.ref (ad 162)), (3, Value.ref (ad 163)), (4, Value.ref (ad 164)), (5, vI x77), (6, vI x78), (8, vI x82)]) dL_isSo_578 (by decide) rfl ?_
                      refine a_iinc (pc := 580) a (ls1 := [(8, vI (x82 + 1)), (7, vI x82), (0, Value.ref (ad 0)), (1, Value.ref (ad 161)), (2, Value.ref (ad 162)), (3, Value.ref (ad 163)), (4, Value.ref (ad 164)), (5, vI x77), (6, vI x78)]) 8 dL_isSo_580 rfl (by decide) rfl ?_
                      refine a_goto (pc := 583) a dL_isSo_583 (tgt := 548) (by decide) ?_
                      refine a_sub (ls1 := [(0, Value.ref (ad 0)), (1, Value.ref (ad 161)), (2, Value.ref (ad 162)), (3, Value.ref (ad 163)), (4, Value.ref (ad 164)), (5, vI x77), (6, vI x78), (7, vI x82), (8, vI (x82 + 1))]) [2, 3, 4, 5, 6, 7, 8, 1, 0] rfl ?_
                      exact hag548 x82 (x82 + 1) h
          · clear h
            intro jj525 hjj525 h
            refine a_icmp_ge (pc := 301) a h.1 h.2.1 dL_isSo_301 (tgt := 525) (by decide) (fun hq => ?_) (fun hq => ?_)
            · replace h := h.2.2.1 hq
              clear hq
              refine a_wid 509 3382 (by omega) (by omega) ?_
              refine a_sub (ls1 := [(0, Value.ref (ad 0)), (1, Value.ref (ad 161)), (2, Value.ref (ad 162)), (3, Value.ref (ad 163)), (4, Value.ref (ad 164)), (5, vI x50)]) [0, 1, 2, 3, 4, 5] rfl ?_
              exact hjj525  h
            · replace h := h.2.2.2 hq
              clear hq
              refine a_iload (pc := 304) a 5 dL_isSo_304 rfl ?_
              refine a_if_eq (pc := 306) a h.1 dL_isSo_306 (tgt := 525) (by decide) (fun hq => ?_) (fun hq => ?_)
              · replace h := h.2.1 hq
                clear hq
                refine a_wid 509 3382 (by omega) (by omega) ?_
                refine a_sub (ls1 := [(0, Value.ref (ad 0)), (1, Value.ref (ad 161)), (2, Value.ref (ad 162)), (3, Value.ref (ad 163)), (4, Value.ref (ad 164)), (5, vI x50)]) [0, 1, 2, 3, 4, 5] rfl ?_
                exact hjj525  h
              · replace h := h.2.2 hq
                clear hq
                refine a_aload (pc := 309) a 4 dL_isSo_309 rfl ?_
                refine a_bipush (pc := 311) a dL_isSo_311 (by decide) ?_
                refine a_iload (pc := 313) a 6 dL_isSo_313 rfl ?_
                refine a_iadd (pc := 315) a dL_isSo_315 ?_
                refine a_iald (pc := 316) a (tw hinj w5) (by decide) h.1 dL_isSo_316 ?_
                replace h := h.2
                refine a_nm (fun x54 hx => ?_)
                replace h := h x54 hx
                clear hx
                refine a_istore (pc := 317) a (ls1 := [(7, vI x54), (0, Value.ref (ad 0)), (1, Value.ref (ad 161)), (2, Value.ref (ad 162)), (3, Value.ref (ad 163)), (4, Value.ref (ad 164)), (5, vI x50), (6, vI x51)]) dL_isSo_317 (by decide) rfl ?_
                refine a_iconst (pc := 319) a dL_isSo_319 ?_
                refine a_istore (pc := 320) a (ls1 := [(8, vI 0), (7, vI x54), (0, Value.ref (ad 0)), (1, Value.ref (ad 161)), (2, Value.ref (ad 162)), (3, Value.ref (ad 163)), (4, Value.ref (ad 164)), (5, vI x50), (6, vI x51)]) dL_isSo_320 (by decide) rfl ?_
                refine a_iconst (pc := 322) a dL_isSo_322 ?_
                refine a_istore (pc := 323) a (ls1 := [(9, vI 0), (8, vI 0), (7, vI x54), (0, Value.ref (ad 0)), (1, Value.ref (ad 161)), (2, Value.ref (ad 162)), (3, Value.ref (ad 163)), (4, Value.ref (ad 164)), (5, vI x50), (6, vI x51)]) dL_isSo_323 (by decide) rfl ?_
                refine a_sub (ls1 := [(0, Value.ref (ad 0)), (1, Value.ref (ad 161)), (2, Value.ref (ad 162)), (3, Value.ref (ad 163)), (4, Value.ref (ad 164)), (6, vI x51), (7, vI x54), (8, vI 0), (9, vI 0)]) [3, 4, 5, 6, 7, 9, 2, 1, 0] rfl ?_
                refine g_wl2 (fun x55 x56 => [(0, Value.ref (ad 0)), (1, Value.ref (ad 161)), (2, Value.ref (ad 162)), (3, Value.ref (ad 163)), (4, Value.ref (ad 164)), (6, vI x51), (7, vI x54), (8, vI x55), (9, vI x56)]) h ?_
                clear h
                intro x55 x56 ag325 hag325 h
                refine a_iload (pc := 325) a 8 dL_isSo_325 rfl ?_
                refine a_aload_n (pc := 327) a 1 dL_isSo_327 rfl rfl ?_
                refine a_bipush (pc := 328) a dL_isSo_328 (by decide) ?_
                refine a_iald (pc := 330) a (tw hinj w2) (by decide) (by decide) dL_isSo_330 ?_
                refine a_icmp_ge (pc := 331) a h.1 h.2.1 dL_isSo_331 (tgt := 364) (by decide) (fun hq => ?_) (fun hq => ?_)
                · replace h := h.2.2.1 hq
                  clear hq
                  refine a_aload_n (pc := 364) a 1 dL_isSo_364 rfl rfl ?_
                  refine a_aload (pc := 365) a 4 dL_isSo_365 rfl ?_
                  refine a_iload (pc := 367) a 5 dL_isSo_367 rfl ?_
                  refine a_csi (pc := 369) a (As := [Value.ref (ad 161), Value.ref (ad 164), vI x51]) (rest := []) (fun sz => c_L_place hinj hl0  h sz) (va_cwS 3 hts (gl_S (GL_6 _ (by decide +kernel)) (GL_7 _ (by decide +kernel)) (GL_4 _ (by decide +kernel)) (GL_7 _ (by decide +kernel))) rfl rfl rfl (by decide +kernel) ⟨Nat.le_of_ble_eq_true rfl, Nat.le_of_ble_eq_true rfl⟩) rfl rfl (Nat.le_of_ble_eq_true rfl) ⟨by show c_k295 + 0 ≤ 882; omega, by show s_k295 + 0 ≤ 5620; omega⟩ dL_isSo_369 ?_
                  rintro x57 s9 ⟨hs9, h9⟩
                  subst s9
                  replace h := h9
                  clear h9
                  refine a_istore (pc := 372) a (ls1 := [(9, vI x57), (0, Value.ref (ad 0)), (1, Value.ref (ad 161)), (2, Value.ref (ad 162)), (3, Value.ref (ad 163)), (4, Value.ref (ad 164)), (6, vI x51), (7, vI x54), (8, vI x55)]) dL_isSo_372 (by decide) rfl ?_
                  refine a_aload_n (pc := 374) a 1 dL_isSo_374 rfl rfl ?_
                  refine a_iload (pc := 375) a 6 dL_isSo_375 rfl ?_
                  refine a_iconst (pc := 377) a dL_isSo_377 ?_
                  refine a_cwi (pc := 378) a (As := [Value.ref (ad 0), vI x51, vI 0]) (rest := []) (fun sz => c_L_lineOf hinj hl0  h sz) (vx_cwSW 3 hts (gl_S (GL_16 _ (by decide +kernel)) (GL_16 _ (by decide +kernel)) (GL_4 _ (by decide +kernel)) (GL_16 _ (by decide +kernel))) rfl rfl rfl (by decide +kernel) ⟨Nat.le_of_ble_eq_true rfl, Nat.le_of_ble_eq_true rfl⟩) rfl rfl (Nat.le_of_ble_eq_true rfl) ⟨by show c_k295 + 0 + 1 ≤ 882; omega, by show s_k295 + 0 + 6 ≤ 5620; omega⟩ dL_isSo_378 ?_
                  clear h
                  intro x58 s59 h
                  refine a_iload (pc := 381) a 7 dL_isSo_381 rfl ?_
                  refine a_sipush (pc := 383) a dL_isSo_383 (by decide) ?_
                  refine a_idiv (pc := 386) a dL_isSo_386 h.1 (by decide) ?_
                  replace h := h.2
                  refine a_icmp_ne (pc := 387) a h.1 h.2.1 dL_isSo_387 (tgt := 516) (by decide) (fun hq => ?_) (fun hq => ?_)
                  · replace h := h.2.2.1 hq
                    clear hq
                    refine a_iconst (pc := 516) a dL_isSo_516 ?_
                    refine a_istore (pc := 517) a (ls1 := [(5, vI 0), (9, vI x57), (0, Value.ref (ad 0)), (1, Value.ref (ad 161)), (2, Value.ref (ad 162)), (3, Value.ref (ad 163)), (4, Value.ref (ad 164)), (6, vI x51), (7, vI x54), (8, vI x55)]) dL_isSo_517 (by decide) rfl ?_
                    refine a_iinc (pc := 519) a (ls1 := [(6, vI (x51 + 1)), (5, vI 0), (9, vI x57), (0, Value.ref (ad 0)), (1, Value.ref (ad 161)), (2, Value.ref (ad 162)), (3, Value.ref (ad 163)), (4, Value.ref (ad 164)), (7, vI x54), (8, vI x55)]) 7 dL_isSo_519 rfl (by decide) rfl ?_
                    refine a_goto (pc := 522) a dL_isSo_522 (tgt := 295) (by decide) ?_
                    refine a_sub (ls1 := [(0, Value.ref (ad 0)), (1, Value.ref (ad 161)), (2, Value.ref (ad 162)), (3, Value.ref (ad 163)), (4, Value.ref (ad 164)), (5, vI 0), (6, vI (x51 + 1))]) [3, 4, 5, 6, 7, 1, 0] rfl ?_
                    refine a_wid (c_k295 + 8) (s_k295 + 48) (by omega) (by omega) ?_
                    exact hag295 0 (x51 + 1) s59 h
                  · replace h := h.2.2.2 hq
                    clear hq
                    refine a_aload_n (pc := 390) a 1 dL_isSo_390 rfl rfl ?_
                    refine a_iload (pc := 391) a 6 dL_isSo_391 rfl ?_
                    refine a_iconst (pc := 393) a dL_isSo_393 ?_
                    refine a_cwi (pc := 394) a (As := [Value.ref (ad 0), vI x51, vI 1]) (rest := []) (fun sz => c_L_lineOf hinj hl0  h sz) (vx_cwSW 3 hts (gl_S (GL_16 _ (by decide +kernel)) (GL_16 _ (by decide +kernel)) (GL_4 _ (by decide +kernel)) (GL_16 _ (by decide +kernel))) rfl rfl rfl (by decide +kernel) ⟨Nat.le_of_ble_eq_true rfl, Nat.le_of_ble_eq_true rfl⟩) rfl rfl (Nat.le_of_ble_eq_true rfl) ⟨by show c_k295 + 0 + 1 + 1 ≤ 882; omega, by show s_k295 + 0 + 6 + 6 ≤ 5620; omega⟩ dL_isSo_394 ?_
                    clear h
                    intro x60 s61 h
                    refine a_iload (pc := 397) a 7 dL_isSo_397 rfl ?_
                    refine a_sipush (pc := 399) a dL_isSo_399 (by decide) ?_
                    refine a_idiv (pc := 402) a dL_isSo_402 h.1 (by decide) ?_
                    replace h := h.2
                    refine a_bipush (pc := 403) a dL_isSo_403 (by decide) ?_
                    refine a_irem (pc := 405) a dL_isSo_405 h.1 (by decide) ?_
                    replace h := h.2
                    refine a_iconst (pc := 406) a dL_isSo_406 ?_
                    refine a_isub (pc := 407) a dL_isSo_407 ?_
                    refine a_icmp_ne (pc := 408) a h.1 h.2.1 dL_isSo_408 (tgt := 516) (by decide) (fun hq => ?_) (fun hq => ?_)
                    · replace h := h.2.2.1 hq
                      clear hq
                      refine a_iconst (pc := 516) a dL_isSo_516 ?_
                      refine a_istore (pc := 517) a (ls1 := [(5, vI 0), (9, vI x57), (0, Value.ref (ad 0)), (1, Value.ref (ad 161)), (2, Value.ref (ad 162)), (3, Value.ref (ad 163)), (4, Value.ref (ad 164)), (6, vI x51), (7, vI x54), (8, vI x55)]) dL_isSo_517 (by decide) rfl ?_
                      refine a_iinc (pc := 519) a (ls1 := [(6, vI (x51 + 1)), (5, vI 0), (9, vI x57), (0, Value.ref (ad 0)), (1, Value.ref (ad 161)), (2, Value.ref (ad 162)), (3, Value.ref (ad 163)), (4, Value.ref (ad 164)), (7, vI x54), (8, vI x55)]) 7 dL_isSo_519 rfl (by decide) rfl ?_
                      refine a_goto (pc := 522) a dL_isSo_522 (tgt := 295) (by decide) ?_
                      refine a_sub (ls1 := [(0, Value.ref (ad 0)), (1, Value.ref (ad 161)), (2, Value.ref (ad 162)), (3, Value.ref (ad 163)), (4, Value.ref (ad 164)), (5, vI 0), (6, vI (x51 + 1))]) [3, 4, 5, 6, 7, 1, 0] rfl ?_
                      refine a_wid (c_k295 + 8) (s_k295 + 48) (by omega) (by omega) ?_
                      exact hag295 0 (x51 + 1) s61 h
                    · replace h := h.2.2.2 hq
                      clear hq
                      refine a_aload_n (pc := 411) a 1 dL_isSo_411 rfl rfl ?_
                      refine a_iload (pc := 412) a 6 dL_isSo_412 rfl ?_
                      refine a_iconst (pc := 414) a dL_isSo_414 ?_
                      refine a_cwi (pc := 415) a (As := [Value.ref (ad 0), vI x51, vI 2]) (rest := []) (fun sz => c_L_lineOf hinj hl0  h sz) (vx_cwSW 3 hts (gl_S (GL_16 _ (by decide +kernel)) (GL_16 _ (by decide +kernel)) (GL_4 _ (by decide +kernel)) (GL_16 _ (by decide +kernel))) rfl rfl rfl (by decide +kernel) ⟨Nat.le_of_ble_eq_true rfl, Nat.le_of_ble_eq_true rfl⟩) rfl rfl (Nat.le_of_ble_eq_true rfl) ⟨by show c_k295 + 0 + 1 + 1 + 1 ≤ 882; omega, by show s_k295 + 0 + 6 + 6 + 6 ≤ 5620; omega⟩ dL_isSo_415 ?_
                      clear h
                      intro x62 s63 h
                      refine a_iload (pc := 418) a 7 dL_isSo_418 rfl ?_
                      refine a_bipush (pc := 420) a dL_isSo_420 (by decide) ?_
                      refine a_idiv (pc := 422) a dL_isSo_422 h.1 (by decide) ?_
                      replace h := h.2
                      refine a_bipush (pc := 423) a dL_isSo_423 (by decide) ?_
                      refine a_irem (pc := 425) a dL_isSo_425 h.1 (by decide) ?_
                      replace h := h.2
                      refine a_iconst (pc := 426) a dL_isSo_426 ?_
                      refine a_isub (pc := 427) a dL_isSo_427 ?_
                      refine a_icmp_ne (pc := 428) a h.1 h.2.1 dL_isSo_428 (tgt := 516) (by decide) (fun hq => ?_) (fun hq => ?_)
                      · replace h := h.2.2.1 hq
                        clear hq
                        refine a_iconst (pc := 516) a dL_isSo_516 ?_
                        refine a_istore (pc := 517) a (ls1 := [(5, vI 0), (9, vI x57), (0, Value.ref (ad 0)), (1, Value.ref (ad 161)), (2, Value.ref (ad 162)), (3, Value.ref (ad 163)), (4, Value.ref (ad 164)), (6, vI x51), (7, vI x54), (8, vI x55)]) dL_isSo_517 (by decide) rfl ?_
                        refine a_iinc (pc := 519) a (ls1 := [(6, vI (x51 + 1)), (5, vI 0), (9, vI x57), (0, Value.ref (ad 0)), (1, Value.ref (ad 161)), (2, Value.ref (ad 162)), (3, Value.ref (ad 163)), (4, Value.ref (ad 164)), (7, vI x54), (8, vI x55)]) 7 dL_isSo_519 rfl (by decide) rfl ?_
                        refine a_goto (pc := 522) a dL_isSo_522 (tgt := 295) (by decide) ?_
                        refine a_sub (ls1 := [(0, Value.ref (ad 0)), (1, Value.ref (ad 161)), (2, Value.ref (ad 162)), (3, Value.ref (ad 163)), (4, Value.ref (ad 164)), (5, vI 0), (6, vI (x51 + 1))]) [3, 4, 5, 6, 7, 1, 0] rfl ?_
                        refine a_wid (c_k295 + 8) (s_k295 + 48) (by omega) (by omega) ?_
                        exact hag295 0 (x51 + 1) s63 h
                      · replace h := h.2.2.2 hq
                        clear hq
                        refine a_aload_n (pc := 431) a 1 dL_isSo_431 rfl rfl ?_
                        refine a_iload (pc := 432) a 6 dL_isSo_432 rfl ?_
                        refine a_iconst (pc := 434) a dL_isSo_434 ?_
                        refine a_cwi (pc := 435) a (As := [Value.ref (ad 0), vI x51, vI 3]) (rest := []) (fun sz => c_L_lineOf hinj hl0  h sz) (vx_cwSW 3 hts (gl_S (GL_16 _ (by decide +kernel)) (GL_16 _ (by decide +kernel)) (GL_4 _ (by decide +kernel)) (GL_16 _ (by decide +kernel))) rfl rfl rfl (by decide +kernel) ⟨Nat.le_of_ble_eq_true rfl, Nat.le_of_ble_eq_true rfl⟩) rfl rfl (Nat.le_of_ble_eq_true rfl) ⟨by show c_k295 + 0 + 1 + 1 + 1 + 1 ≤ 882; omega, by show s_k295 + 0 + 6 + 6 + 6 + 6 ≤ 5620; omega⟩ dL_isSo_435 ?_
                        clear h
                        intro x64 s65 h
                        refine a_iload (pc := 438) a 7 dL_isSo_438 rfl ?_
                        refine a_bipush (pc := 440) a dL_isSo_440 (by decide) ?_
                        refine a_idiv (pc := 442) a dL_isSo_442 h.1 (by decide) ?_
                        replace h := h.2
                        refine a_bipush (pc := 443) a dL_isSo_443 (by decide) ?_
                        refine a_irem (pc := 445) a dL_isSo_445 h.1 (by decide) ?_
                        replace h := h.2
                        refine a_iconst (pc := 446) a dL_isSo_446 ?_
                        refine a_isub (pc := 447) a dL_isSo_447 ?_
                        refine a_icmp_ne (pc := 448) a h.1 h.2.1 dL_isSo_448 (tgt := 516) (by decide) (fun hq => ?_) (fun hq => ?_)
                        · replace h := h.2.2.1 hq
                          clear hq
                          refine a_iconst (pc := 516) a dL_isSo_516 ?_
                          refine a_istore (pc := 517) a (ls1 := [(5, vI 0), (9, vI x57), (0, Value.ref (ad 0)), (1, Value.ref (ad 161)), (2, Value.ref (ad 162)), (3, Value.ref (ad 163)), (4, Value.ref (ad 164)), (6, vI x51), (7, vI x54), (8, vI x55)]) dL_isSo_517 (by decide) rfl ?_
                          refine a_iinc (pc := 519) a (ls1 := [(6, vI (x51 + 1)), (5, vI 0), (9, vI x57), (0, Value.ref (ad 0)), (1, Value.ref (ad 161)), (2, Value.ref (ad 162)), (3, Value.ref (ad 163)), (4, Value.ref (ad 164)), (7, vI x54), (8, vI x55)]) 7 dL_isSo_519 rfl (by decide) rfl ?_
                          refine a_goto (pc := 522) a dL_isSo_522 (tgt := 295) (by decide) ?_
                          refine a_sub (ls1 := [(0, Value.ref (ad 0)), (1, Value.ref (ad 161)), (2, Value.ref (ad 162)), (3, Value.ref (ad 163)), (4, Value.ref (ad 164)), (5, vI 0), (6, vI (x51 + 1))]) [3, 4, 5, 6, 7, 1, 0] rfl ?_
                          refine a_wid (c_k295 + 8) (s_k295 + 48) (by omega) (by omega) ?_
                          exact hag295 0 (x51 + 1) s65 h
                        · replace h := h.2.2.2 hq
                          clear hq
                          refine a_aload_n (pc := 451) a 1 dL_isSo_451 rfl rfl ?_
                          refine a_iload (pc := 452) a 6 dL_isSo_452 rfl ?_
                          refine a_iconst (pc := 454) a dL_isSo_454 ?_
                          refine a_cwi (pc := 455) a (As := [Value.ref (ad 0), vI x51, vI 4]) (rest := []) (fun sz => c_L_lineOf hinj hl0  h sz) (vx_cwSW 3 hts (gl_S (GL_16 _ (by decide +kernel)) (GL_16 _ (by decide +kernel)) (GL_4 _ (by decide +kernel)) (GL_16 _ (by decide +kernel))) rfl rfl rfl (by decide +kernel) ⟨Nat.le_of_ble_eq_true rfl, Nat.le_of_ble_eq_true rfl⟩) rfl rfl (Nat.le_of_ble_eq_true rfl) ⟨by show c_k295 + 0 + 1 + 1 + 1 + 1 + 1 ≤ 882; omega, by show s_k295 + 0 + 6 + 6 + 6 + 6 + 6 ≤ 5620; omega⟩ dL_isSo_455 ?_
                          clear h
                          intro x66 s67 h
                          refine a_iload (pc := 458) a 7 dL_isSo_458 rfl ?_
                          refine a_bipush (pc := 460) a dL_isSo_460 (by decide) ?_
                          refine a_irem (pc := 462) a dL_isSo_462 h.1 (by decide) ?_
                          replace h := h.2
                          refine a_iconst (pc := 463) a dL_isSo_463 ?_
                          refine a_isub (pc := 464) a dL_isSo_464 ?_
                          refine a_icmp_ne (pc := 465) a h.1 h.2.1 dL_isSo_465 (tgt := 516) (by decide) (fun hq => ?_) (fun hq => ?_)
                          · replace h := h.2.2.1 hq
                            clear hq
                            refine a_iconst (pc := 516) a dL_isSo_516 ?_
                            refine a_istore (pc := 517) a (ls1 := [(5, vI 0), (9, vI x57), (0, Value.ref (ad 0)), (1, Value.ref (ad 161)), (2, Value.ref (ad 162)), (3, Value.ref (ad 163)), (4, Value.ref (ad 164)), (6, vI x51), (7, vI x54), (8, vI x55)]) dL_isSo_517 (by decide) rfl ?_
                            refine a_iinc (pc := 519) a (ls1 := [(6, vI (x51 + 1)), (5, vI 0), (9, vI x57), (0, Value.ref (ad 0)), (1, Value.ref (ad 161)), (2, Value.ref (ad 162)), (3, Value.ref (ad 163)), (4, Value.ref (ad 164)), (7, vI x54), (8, vI x55)]) 7 dL_isSo_519 rfl (by decide) rfl ?_
                            refine a_goto (pc := 522) a dL_isSo_522 (tgt := 295) (by decide) ?_
                            refine a_sub (ls1 := [(0, Value.ref (ad 0)), (1, Value.ref (ad 161)), (2, Value.ref (ad 162)), (3, Value.ref (ad 163)), (4, Value.ref (ad 164)), (5, vI 0), (6, vI (x51 + 1))]) [3, 4, 5, 6, 7, 1, 0] rfl ?_
                            refine a_wid (c_k295 + 8) (s_k295 + 48) (by omega) (by omega) ?_
                            exact hag295 0 (x51 + 1) s67 h
                          · replace h := h.2.2.2 hq
                            clear hq
                            refine a_aload_n (pc := 468) a 1 dL_isSo_468 rfl rfl ?_
                            refine a_iload (pc := 469) a 6 dL_isSo_469 rfl ?_
                            refine a_iconst (pc := 471) a dL_isSo_471 ?_
                            refine a_cwi (pc := 472) a (As := [Value.ref (ad 0), vI x51, vI 5]) (rest := []) (fun sz => c_L_lineOf hinj hl0  h sz) (vx_cwSW 3 hts (gl_S (GL_16 _ (by decide +kernel)) (GL_16 _ (by decide +kernel)) (GL_4 _ (by decide +kernel)) (GL_16 _ (by decide +kernel))) rfl rfl rfl (by decide +kernel) ⟨Nat.le_of_ble_eq_true rfl, Nat.le_of_ble_eq_true rfl⟩) rfl rfl (Nat.le_of_ble_eq_true rfl) ⟨by show c_k295 + 0 + 1 + 1 + 1 + 1 + 1 + 1 ≤ 882; omega, by show s_k295 + 0 + 6 + 6 + 6 + 6 + 6 + 6 ≤ 5620; omega⟩ dL_isSo_472 ?_
                            clear h
                            intro x68 s69 h
                            refine a_iload (pc := 475) a 8 dL_isSo_475 rfl ?_
                            refine a_icmp_ne (pc := 477) a h.1 h.2.1 dL_isSo_477 (tgt := 516) (by decide) (fun hq => ?_) (fun hq => ?_)
                            · replace h := h.2.2.1 hq
                              clear hq
                              refine a_iconst (pc := 516) a dL_isSo_516 ?_
                              refine a_istore (pc := 517) a (ls1 := [(5, vI 0), (9, vI x57), (0, Value.ref (ad 0)), (1, Value.ref (ad 161)), (2, Value.ref (ad 162)), (3, Value.ref (ad 163)), (4, Value.ref (ad 164)), (6, vI x51), (7, vI x54), (8, vI x55)]) dL_isSo_517 (by decide) rfl ?_
                              refine a_iinc (pc := 519) a (ls1 := [(6, vI (x51 + 1)), (5, vI 0), (9, vI x57), (0, Value.ref (ad 0)), (1, Value.ref (ad 161)), (2, Value.ref (ad 162)), (3, Value.ref (ad 163)), (4, Value.ref (ad 164)), (7, vI x54), (8, vI x55)]) 7 dL_isSo_519 rfl (by decide) rfl ?_
                              refine a_goto (pc := 522) a dL_isSo_522 (tgt := 295) (by decide) ?_
                              refine a_sub (ls1 := [(0, Value.ref (ad 0)), (1, Value.ref (ad 161)), (2, Value.ref (ad 162)), (3, Value.ref (ad 163)), (4, Value.ref (ad 164)), (5, vI 0), (6, vI (x51 + 1))]) [3, 4, 5, 6, 7, 1, 0] rfl ?_
                              refine a_wid (c_k295 + 8) (s_k295 + 48) (by omega) (by omega) ?_
                              exact hag295 0 (x51 + 1) s69 h
                            · replace h := h.2.2.2 hq
                              clear hq
                              refine a_aload_n (pc := 480) a 1 dL_isSo_480 rfl rfl ?_
                              refine a_iload (pc := 481) a 6 dL_isSo_481 rfl ?_
                              refine a_bipush (pc := 483) a dL_isSo_483 (by decide) ?_
                              refine a_cwi (pc := 485) a (As := [Value.ref (ad 0), vI x51, vI 6]) (rest := []) (fun sz => c_L_lineOf hinj hl0  h sz) (vx_cwSW 3 hts (gl_S (GL_16 _ (by decide +kernel)) (GL_16 _ (by decide +kernel)) (GL_4 _ (by decide +kernel)) (GL_16 _ (by decide +kernel))) rfl rfl rfl (by decide +kernel) ⟨Nat.le_of_ble_eq_true rfl, Nat.le_of_ble_eq_true rfl⟩) rfl rfl (Nat.le_of_ble_eq_true rfl) ⟨by show c_k295 + 0 + 1 + 1 + 1 + 1 + 1 + 1 + 1 ≤ 882; omega, by show s_k295 + 0 + 6 + 6 + 6 + 6 + 6 + 6 + 6 ≤ 5620; omega⟩ dL_isSo_485 ?_
                              clear h
                              intro x70 s71 h
                              refine a_iload (pc := 488) a 0 dL_isSo_488 rfl ?_
                              refine a_bipush (pc := 490) a dL_isSo_490 (by decide) ?_
                              refine a_irem (pc := 492) a dL_isSo_492 h.1 (by decide) ?_
                              replace h := h.2
                              refine a_icmp_ne (pc := 493) a h.1 h.2.1 dL_isSo_493 (tgt := 516) (by decide) (fun hq => ?_) (fun hq => ?_)
                              · replace h := h.2.2.1 hq
                                clear hq
                                refine a_iconst (pc := 516) a dL_isSo_516 ?_
                                refine a_istore (pc := 517) a (ls1 := [(5, vI 0), (9, vI x57), (0, Value.ref (ad 0)), (1, Value.ref (ad 161)), (2, Value.ref (ad 162)), (3, Value.ref (ad 163)), (4, Value.ref (ad 164)), (6, vI x51), (7, vI x54), (8, vI x55)]) dL_isSo_517 (by decide) rfl ?_
                                refine a_iinc (pc := 519) a (ls1 := [(6, vI (x51 + 1)), (5, vI 0), (9, vI x57), (0, Value.ref (ad 0)), (1, Value.ref (ad 161)), (2, Value.ref (ad 162)), (3, Value.ref (ad 163)), (4, Value.ref (ad 164)), (7, vI x54), (8, vI x55)]) 7 dL_isSo_519 rfl (by decide) rfl ?_
                                refine a_goto (pc := 522) a dL_isSo_522 (tgt := 295) (by decide) ?_
                                refine a_sub (ls1 := [(0, Value.ref (ad 0)), (1, Value.ref (ad 161)), (2, Value.ref (ad 162)), (3, Value.ref (ad 163)), (4, Value.ref (ad 164)), (5, vI 0), (6, vI (x51 + 1))]) [3, 4, 5, 6, 7, 1, 0] rfl ?_
                                refine a_wid (c_k295 + 8) (s_k295 + 48) (by omega) (by omega) ?_
                                exact hag295 0 (x51 + 1) s71 h
                              · replace h := h.2.2.2 hq
                                clear hq
                                refine a_aload_n (pc := 496) a 1 dL_isSo_496 rfl rfl ?_
                                refine a_iload (pc := 497) a 6 dL_isSo_497 rfl ?_
                                refine a_bipush (pc := 499) a dL_isSo_499 (by decide) ?_
                                refine a_cwi (pc := 501) a (As := [Value.ref (ad 0), vI x51, vI 7]) (rest := []) (fun sz => c_L_lineOf hinj hl0  h sz) (vx_cwSW 3 hts (gl_S (GL_16 _ (by decide +kernel)) (GL_16 _ (by decide +kernel)) (GL_4 _ (by decide +kernel)) (GL_16 _ (by decide +kernel))) rfl rfl rfl (by decide +kernel) ⟨Nat.le_of_ble_eq_true rfl, Nat.le_of_ble_eq_true rfl⟩) rfl rfl (Nat.le_of_ble_eq_true rfl) ⟨by show c_k295 + 0 + 1 + 1 + 1 + 1 + 1 + 1 + 1 + 1 ≤ 882; omega, by show s_k295 + 0 + 6 + 6 + 6 + 6 + 6 + 6 + 6 + 6 ≤ 5620; omega⟩ dL_isSo_501 ?_
                                clear h
                                intro x72 s73 h
                                refine a_iload (pc := 504) a 0 dL_isSo_504 rfl ?_
                                refine a_bipush (pc := 506) a dL_isSo_506 (by decide) ?_
                                refine a_idiv (pc := 508) a dL_isSo_508 h.1 (by decide) ?_
                                replace h := h.2
                                refine a_icmp_ne (pc := 509) a h.1 h.2.1 dL_isSo_509 (tgt := 516) (by decide) (fun hq => ?_) (fun hq => ?_)
                                · replace h := h.2.2.1 hq
                                  clear hq
                                  refine a_iconst (pc := 516) a dL_isSo_516 ?_
                                  refine a_istore (pc := 517) a (ls1 := [(5, vI 0), (9, vI x57), (0, Value.ref (ad 0)), (1, Value.ref (ad 161)), (2, Value.ref (ad 162)), (3, Value.ref (ad 163)), (4, Value.ref (ad 164)), (6, vI x51), (7, vI x54), (8, vI x55)]) dL_isSo_517 (by decide) rfl ?_
                                  refine a_iinc (pc := 519) a (ls1 := [(6, vI (x51 + 1)), (5, vI 0), (9, vI x57), (0, Value.ref (ad 0)), (1, Value.ref (ad 161)), (2, Value.ref (ad 162)), (3, Value.ref (ad 163)), (4, Value.ref (ad 164)), (7, vI x54), (8, vI x55)]) 7 dL_isSo_519 rfl (by decide) rfl ?_
                                  refine a_goto (pc := 522) a dL_isSo_522 (tgt := 295) (by decide) ?_
                                  refine a_sub (ls1 := [(0, Value.ref (ad 0)), (1, Value.ref (ad 161)), (2, Value.ref (ad 162)), (3, Value.ref (ad 163)), (4, Value.ref (ad 164)), (5, vI 0), (6, vI (x51 + 1))]) [3, 4, 5, 6, 7, 1, 0] rfl ?_
                                  refine a_wid (c_k295 + 8) (s_k295 + 48) (by omega) (by omega) ?_
                                  exact hag295 0 (x51 + 1) s73 h
                                · replace h := h.2.2.2 hq
                                  clear hq
                                  refine a_iconst (pc := 512) a dL_isSo_512 ?_
                                  refine a_goto (pc := 513) a dL_isSo_513 (tgt := 517) (by decide) ?_
                                  refine a_istore (pc := 517) a (ls1 := [(5, vI 1), (9, vI x57), (0, Value.ref (ad 0)), (1, Value.ref (ad 161)), (2, Value.ref (ad 162)), (3, Value.ref (ad 163)), (4, Value.ref (ad 164)), (6, vI x51), (7, vI x54), (8, vI x55)]) dL_isSo_517 (by decide) rfl ?_
                                  refine a_iinc (pc := 519) a (ls1 := [(6, vI (x51 + 1)), (5, vI 1), (9, vI x57), (0, Value.ref (ad 0)), (1, Value.ref (ad 161)), (2, Value.ref (ad 162)), (3, Value.ref (ad 163)), (4, Value.ref (ad 164)), (7, vI x54), (8, vI x55)]) 7 dL_isSo_519 rfl (by decide) rfl ?_
                                  refine a_goto (pc := 522) a dL_isSo_522 (tgt := 295) (by decide) ?_
                                  refine a_sub (ls1 := [(0, Value.ref (ad 0)), (1, Value.ref (ad 161)), (2, Value.ref (ad 162)), (3, Value.ref (ad 163)), (4, Value.ref (ad 164)), (5, vI 1), (6, vI (x51 + 1))]) [3, 4, 5, 6, 7, 1, 0] rfl ?_
                                  refine a_wid (c_k295 + 8) (s_k295 + 48) (by omega) (by omega) ?_
                                  exact hag295 1 (x51 + 1) s73 h
                · replace h := h.2.2.2 hq
                  clear hq
                  refine a_iload (pc := 334) a 7 dL_isSo_334 rfl ?_
                  refine a_aload_n (pc := 336) a 2 dL_isSo_336 rfl rfl ?_
                  refine a_aload_n (pc := 337) a 3 dL_isSo_337 rfl rfl ?_
                  refine a_aload (pc := 338) a 4 dL_isSo_338 rfl ?_
                  refine a_iload (pc := 340) a 5 dL_isSo_340 rfl ?_
                  refine a_iload (pc := 342) a 8 dL_isSo_342 rfl ?_
                  refine a_csi (pc := 344) a (As := [Value.ref (ad 162), Value.ref (ad 163), Value.ref (ad 164), vI x51, vI x56]) (rest := [vI x55]) (fun sz => c_L_stands hinj hl0  h sz) (va_cwS 5 hts (gl_S (GL_15 _ (by decide +kernel)) (GL_15 _ (by decide +kernel)) (GL_4 _ (by decide +kernel)) (GL_15 _ (by decide +kernel))) rfl rfl rfl (by decide +kernel) ⟨Nat.le_of_ble_eq_true rfl, Nat.le_of_ble_eq_true rfl⟩) rfl rfl (Nat.le_of_ble_eq_true rfl) ⟨by show c_k295 + 0 ≤ 882; omega, by show s_k295 + 0 ≤ 5620; omega⟩ dL_isSo_344 ?_
                  rintro x74 s9 ⟨hs9, h9⟩
                  subst s9
                  replace h := h9
                  clear h9
                  refine a_if_eq (pc := 347) a h.1 dL_isSo_347 (tgt := 354) (by decide) (fun hq => ?_) (fun hq => ?_)
                  · replace h := h.2.1 hq
                    clear hq
                    refine a_iconst (pc := 354) a dL_isSo_354 ?_
                    refine a_iadd (pc := 355) a dL_isSo_355 ?_
                    refine a_nm (fun x75 hx => ?_)
                    replace h := h x75 hx
                    clear hx
                    refine a_istore (pc := 356) a (ls1 := [(8, vI x75), (0, Value.ref (ad 0)), (1, Value.ref (ad 161)), (2, Value.ref (ad 162)), (3, Value.ref (ad 163)), (4, Value.ref (ad 164)), (6, vI x51), (7, vI x54), (9, vI x56)]) dL_isSo_356 (by decide) rfl ?_
                    refine a_iinc (pc := 358) a (ls1 := [(9, vI (x56 + 1)), (8, vI x75), (0, Value.ref (ad 0)), (1, Value.ref (ad 161)), (2, Value.ref (ad 162)), (3, Value.ref (ad 163)), (4, Value.ref (ad 164)), (6, vI x51), (7, vI x54)]) 8 dL_isSo_358 rfl (by decide) rfl ?_
                    refine a_goto (pc := 361) a dL_isSo_361 (tgt := 325) (by decide) ?_
                    refine a_sub (ls1 := [(0, Value.ref (ad 0)), (1, Value.ref (ad 161)), (2, Value.ref (ad 162)), (3, Value.ref (ad 163)), (4, Value.ref (ad 164)), (6, vI x51), (7, vI x54), (8, vI x75), (9, vI (x56 + 1))]) [2, 3, 4, 5, 6, 7, 8, 1, 0] rfl ?_
                    exact hag325 x75 (x56 + 1) h
                  · replace h := h.2.2 hq
                    clear hq
                    refine a_iconst (pc := 350) a dL_isSo_350 ?_
                    refine a_goto (pc := 351) a dL_isSo_351 (tgt := 355) (by decide) ?_
                    refine a_iadd (pc := 355) a dL_isSo_355 ?_
                    refine a_nm (fun x76 hx => ?_)
                    replace h := h x76 hx
                    clear hx
                    refine a_istore (pc := 356) a (ls1 := [(8, vI x76), (0, Value.ref (ad 0)), (1, Value.ref (ad 161)), (2, Value.ref (ad 162)), (3, Value.ref (ad 163)), (4, Value.ref (ad 164)), (6, vI x51), (7, vI x54), (9, vI x56)]) dL_isSo_356 (by decide) rfl ?_
                    refine a_iinc (pc := 358) a (ls1 := [(9, vI (x56 + 1)), (8, vI x76), (0, Value.ref (ad 0)), (1, Value.ref (ad 161)), (2, Value.ref (ad 162)), (3, Value.ref (ad 163)), (4, Value.ref (ad 164)), (6, vI x51), (7, vI x54)]) 8 dL_isSo_358 rfl (by decide) rfl ?_
                    refine a_goto (pc := 361) a dL_isSo_361 (tgt := 325) (by decide) ?_
                    refine a_sub (ls1 := [(0, Value.ref (ad 0)), (1, Value.ref (ad 161)), (2, Value.ref (ad 162)), (3, Value.ref (ad 163)), (4, Value.ref (ad 164)), (6, vI x51), (7, vI x54), (8, vI x76), (9, vI (x56 + 1))]) [2, 3, 4, 5, 6, 7, 8, 1, 0] rfl ?_
                    exact hag325 x76 (x56 + 1) h
        · clear h
          intro jj290 hjj290 h
          refine g_wj0s 289 69 742 [(0, Value.ref (ad 0)), (1, Value.ref (ad 161)), (2, Value.ref (ad 162)), (3, Value.ref (ad 163)), (4, Value.ref (ad 164))] [] h ?_ ?_
          · clear h
            intro s47 h
            refine a_iconst (pc := 289) a dL_isSo_289 ?_
            exact hjj290 0 s47 h
          · clear h
            intro jj289 hjj289 h
            refine a_if_eq (pc := 215) a h.1 dL_isSo_215 (tgt := 289) (by decide) (fun hq => ?_) (fun hq => ?_)
            · replace h := h.2.1 hq
              clear hq
              refine a_sub (ls1 := [(0, Value.ref (ad 0)), (1, Value.ref (ad 161)), (2, Value.ref (ad 162)), (3, Value.ref (ad 163)), (4, Value.ref (ad 164))]) [0, 1, 2, 3, 4] rfl ?_
              refine a_wid 69 742 (by omega) (by omega) ?_
              exact hjj289 s31 h
            · replace h := h.2.2 hq
              clear hq
              refine a_aload_n (pc := 218) a 0 dL_isSo_218 rfl rfl ?_
              refine a_iconst (pc := 219) a dL_isSo_219 ?_
              refine a_cwi (pc := 220) a (As := [Value.ref (ad 0), vI 5]) (rest := []) (fun sz => c_L_boxOf hinj hl0  h sz) (vx_cwSW 2 hts (gl_S (GL_15 _ (by decide +kernel)) (GL_15 _ (by decide +kernel)) (GL_4 _ (by decide +kernel)) (GL_15 _ (by decide +kernel))) rfl rfl rfl (by decide +kernel) ⟨Nat.le_of_ble_eq_true rfl, Nat.le_of_ble_eq_true rfl⟩) rfl rfl (Nat.le_of_ble_eq_true rfl) ⟨Nat.le_of_ble_eq_true rfl, Nat.le_of_ble_eq_true rfl⟩ dL_isSo_220 ?_
              clear h
              intro x34 s35 h
              refine a_aload (pc := 223) a 4 dL_isSo_223 rfl ?_
              refine a_iconst (pc := 225) a dL_isSo_225 ?_
              refine a_iald (pc := 226) a (tw hinj w5) (by decide) (by decide) dL_isSo_226 ?_
              refine g_wj1 244 69 742 (fun x39 => [(0, Value.ref (ad 0)), (1, Value.ref (ad 161)), (2, Value.ref (ad 162)), (3, Value.ref (ad 163)), (4, Value.ref (ad 164))]) (fun x39 => [vI x39, vI x34]) h ?_ ?_
              · clear h
                intro x39 h
                refine a_icmp_ne (pc := 244) a h.1 h.2.1 dL_isSo_244 (tgt := 289) (by decide) (fun hq => ?_) (fun hq => ?_)
                · replace h := h.2.2.1 hq
                  clear hq
                  exact hjj289 s35 h
                · replace h := h.2.2.2 hq
                  clear hq
                  refine a_aload_n (pc := 247) a 0 dL_isSo_247 rfl rfl ?_
                  refine a_cvd (pc := 248) a (As := []) (rest := []) w1 vc6 (fun sz => c_X6_explained hinj hl0  h sz) (cwV 0 hts (gl_V (GL_15 _ (by decide +kernel)) (GL_15 _ (by decide +kernel)) (GL_15 _ (by decide +kernel)) (GL_1 _ (by decide +kernel)) (GL_15 _ (by decide +kernel))) rfl rfl rfl (by decide +kernel) ⟨Nat.le_of_ble_eq_true rfl, Nat.le_of_ble_eq_true rfl⟩) rfl rfl (Nat.le_of_ble_eq_true rfl) ⟨Nat.le_of_ble_eq_true rfl, Nat.le_of_ble_eq_true rfl⟩ dL_isSo_248 ?_
                  clear h
                  intro x41 s42 h
                  refine a_aload_n (pc := 251) a 1 dL_isSo_251 rfl rfl ?_
                  refine a_aload_n (pc := 252) a 3 dL_isSo_252 rfl rfl ?_
                  refine a_csi (pc := 253) a (As := [Value.ref (ad 161), Value.ref (ad 163)]) (rest := [Value.double x41]) (fun sz => c_L_shown hinj hl0  h sz) (va_cwS 2 hts (gl_S (GL_5 _ (by decide +kernel)) (GL_5 _ (by decide +kernel)) (GL_4 _ (by decide +kernel)) (GL_5 _ (by decide +kernel))) rfl rfl rfl (by decide +kernel) ⟨Nat.le_of_ble_eq_true rfl, Nat.le_of_ble_eq_true rfl⟩) rfl rfl (Nat.le_of_ble_eq_true rfl) ⟨Nat.le_of_ble_eq_true rfl, Nat.le_of_ble_eq_true rfl⟩ dL_isSo_253 ?_
                  rintro x43 s9 ⟨hs9, h9⟩
                  subst s9
                  replace h := h9
                  clear h9
                  refine a_if_ne (pc := 256) a h.1 dL_isSo_256 (tgt := 263) (by decide) (fun hq => ?_) (fun hq => ?_)
                  · replace h := h.2.1 hq
                    clear hq
                    refine a_aload (pc := 263) a 4 dL_isSo_263 rfl ?_
                    refine a_iconst (pc := 265) a dL_isSo_265 ?_
                    refine a_iald (pc := 266) a (tw hinj w5) (by decide) (by decide) dL_isSo_266 ?_
                    refine a_csi (pc := 267) a (As := [vI (s42 164 3)]) (rest := [Value.double x41]) (fun sz => c_L_bits hinj hl0  h sz) (va_cwS 1 hts (gl_S (GL_5 _ (by decide +kernel)) (GL_5 _ (by decide +kernel)) (GL_4 _ (by decide +kernel)) (GL_5 _ (by decide +kernel))) rfl rfl rfl (by decide +kernel) ⟨Nat.le_of_ble_eq_true rfl, Nat.le_of_ble_eq_true rfl⟩) rfl rfl (Nat.le_of_ble_eq_true rfl) ⟨Nat.le_of_ble_eq_true rfl, Nat.le_of_ble_eq_true rfl⟩ dL_isSo_267 ?_
                    rintro x44 s9 ⟨hs9, h9⟩
                    subst s9
                    replace h := h9
                    clear h9
                    refine a_i2d (pc := 270) a dL_isSo_270 ?_
                    refine a_aload_n (pc := 271) a 1 dL_isSo_271 rfl rfl ?_
                    refine a_aload_n (pc := 272) a 3 dL_isSo_272 rfl rfl ?_
                    refine a_csi (pc := 273) a (As := [Value.ref (ad 161), Value.ref (ad 163)]) (rest := [Value.double (FP.i2d (iI x44)), Value.double x41]) (fun sz => c_L_shown hinj hl0  h sz) (va_cwS 2 hts (gl_S (GL_5 _ (by decide +kernel)) (GL_5 _ (by decide +kernel)) (GL_4 _ (by decide +kernel)) (GL_5 _ (by decide +kernel))) rfl rfl rfl (by decide +kernel) ⟨Nat.le_of_ble_eq_true rfl, Nat.le_of_ble_eq_true rfl⟩) rfl rfl (Nat.le_of_ble_eq_true rfl) ⟨Nat.le_of_ble_eq_true rfl, Nat.le_of_ble_eq_true rfl⟩ dL_isSo_273 ?_
                    rintro x45 s9 ⟨hs9, h9⟩
                    subst s9
                    replace h := h9
                    clear h9
                    refine a_csi (pc := 276) a (As := [vI x45]) (rest := [Value.double (FP.i2d (iI x44)), Value.double x41]) (fun sz => c_L_bits hinj hl0  h sz) (va_cwS 1 hts (gl_S (GL_5 _ (by decide +kernel)) (GL_5 _ (by decide +kernel)) (GL_4 _ (by decide +kernel)) (GL_5 _ (by decide +kernel))) rfl rfl rfl (by decide +kernel) ⟨Nat.le_of_ble_eq_true rfl, Nat.le_of_ble_eq_true rfl⟩) rfl rfl (Nat.le_of_ble_eq_true rfl) ⟨Nat.le_of_ble_eq_true rfl, Nat.le_of_ble_eq_true rfl⟩ dL_isSo_276 ?_
                    rintro x46 s9 ⟨hs9, h9⟩
                    subst s9
                    replace h := h9
                    clear h9
                    refine a_i2d (pc := 279) a dL_isSo_279 ?_
                    refine a_ddiv (pc := 280) a h.1 dL_isSo_280 ?_
                    replace h := h.2
                    refine a_dcmp0 (pc := 281) a h.1 dL_isSo_281 ?_
                    replace h := h.2
                    refine a_if_ne (pc := 282) a ⟨by decide, by decide⟩ dL_isSo_282 (tgt := 289) (by decide) (fun hq => absurd hq (by decide)) (fun _ => ?_)
                    refine a_iconst (pc := 285) a dL_isSo_285 ?_
                    refine a_goto (pc := 286) a dL_isSo_286 (tgt := 290) (by decide) ?_
                    refine a_wid 69 742 (by omega) (by omega) ?_
                    exact hjj290 1 s42 h
                  · replace h := h.2.2 hq
                    clear hq
                    refine a_dconst1 (pc := 259) a dL_isSo_259 ?_
                    refine a_goto (pc := 260) a dL_isSo_260 (tgt := 281) (by decide) ?_
                    refine a_dcmp0 (pc := 281) a h.1 dL_isSo_281 ?_
                    replace h := h.2
                    refine a_if_ne (pc := 282) a ⟨by decide, by decide⟩ dL_isSo_282 (tgt := 289) (by decide) (fun hq => absurd hq (by decide)) (fun _ => ?_)
                    refine a_iconst (pc := 285) a dL_isSo_285 ?_
                    refine a_goto (pc := 286) a dL_isSo_286 (tgt := 290) (by decide) ?_
                    refine a_wid 69 742 (by omega) (by omega) ?_
                    exact hjj290 1 s42 h
              · clear h
                intro jj244 hjj244 h
                refine a_if_ge (pc := 227) a h.1 dL_isSo_227 (tgt := 234) (by decide) (fun hq => ?_) (fun hq => ?_)
                · replace h := h.2.1 hq
                  clear hq
                  refine a_aload_n (pc := 234) a 1 dL_isSo_234 rfl rfl ?_
                  refine a_aload_n (pc := 235) a 3 dL_isSo_235 rfl rfl ?_
                  refine a_aload (pc := 236) a 4 dL_isSo_236 rfl ?_
                  refine a_csi (pc := 238) a (As := [Value.ref (ad 161), Value.ref (ad 163), Value.ref (ad 164)]) (rest := [vI x34]) (fun sz => c_L_covered hinj hl0  h sz) (va_cwS 3 hts (gl_S (GL_5 _ (by decide +kernel)) (GL_5 _ (by decide +kernel)) (GL_4 _ (by decide +kernel)) (GL_5 _ (by decide +kernel))) rfl rfl rfl (by decide +kernel) ⟨Nat.le_of_ble_eq_true rfl, Nat.le_of_ble_eq_true rfl⟩) rfl rfl (Nat.le_of_ble_eq_true rfl) ⟨Nat.le_of_ble_eq_true rfl, Nat.le_of_ble_eq_true rfl⟩ dL_isSo_238 ?_
                  rintro x37 s9 ⟨hs9, h9⟩
                  subst s9
                  replace h := h9
                  clear h9
                  refine a_csi (pc := 241) a (As := [vI x37]) (rest := [vI x34]) (fun sz => c_L_bits hinj hl0  h sz) (va_cwS 1 hts (gl_S (GL_5 _ (by decide +kernel)) (GL_5 _ (by decide +kernel)) (GL_4 _ (by decide +kernel)) (GL_5 _ (by decide +kernel))) rfl rfl rfl (by decide +kernel) ⟨Nat.le_of_ble_eq_true rfl, Nat.le_of_ble_eq_true rfl⟩) rfl rfl (Nat.le_of_ble_eq_true rfl) ⟨Nat.le_of_ble_eq_true rfl, Nat.le_of_ble_eq_true rfl⟩ dL_isSo_241 ?_
                  rintro x38 s9 ⟨hs9, h9⟩
                  subst s9
                  replace h := h9
                  clear h9
                  refine a_sub (ls1 := [(0, Value.ref (ad 0)), (1, Value.ref (ad 161)), (2, Value.ref (ad 162)), (3, Value.ref (ad 163)), (4, Value.ref (ad 164))]) [0, 1, 2, 3, 4] rfl ?_
                  refine a_wid 69 742 (by omega) (by omega) ?_
                  exact hjj244 x38 h
                · replace h := h.2.2 hq
                  clear hq
                  refine a_iconst (pc := 230) a dL_isSo_230 ?_
                  refine a_goto (pc := 231) a dL_isSo_231 (tgt := 244) (by decide) ?_
                  refine a_sub (ls1 := [(0, Value.ref (ad 0)), (1, Value.ref (ad 161)), (2, Value.ref (ad 162)), (3, Value.ref (ad 163)), (4, Value.ref (ad 164))]) [0, 1, 2, 3, 4] rfl ?_
                  refine a_wid 69 742 (by omega) (by omega) ?_
                  exact hjj244 (-1) h
      · replace h := h.2.2 hq
        clear hq
        refine a_iload (pc := 168) a 5 dL_isSo_168 rfl ?_
        refine a_if_eq (pc := 170) a h.1 dL_isSo_170 (tgt := 204) (by decide) (fun hq => ?_) (fun hq => ?_)
        · replace h := h.2.1 hq
          clear hq
          refine a_iconst (pc := 204) a dL_isSo_204 ?_
          refine a_istore (pc := 205) a (ls1 := [(5, vI 0), (0, Value.ref (ad 0)), (1, Value.ref (ad 161)), (2, Value.ref (ad 162)), (3, Value.ref (ad 163)), (4, Value.ref (ad 164)), (6, vI x30)]) dL_isSo_205 (by decide) rfl ?_
          refine a_iinc (pc := 207) a (ls1 := [(6, vI (x30 + 1)), (5, vI 0), (0, Value.ref (ad 0)), (1, Value.ref (ad 161)), (2, Value.ref (ad 162)), (3, Value.ref (ad 163)), (4, Value.ref (ad 164))]) 6 dL_isSo_207 rfl (by decide) rfl ?_
          refine a_goto (pc := 210) a dL_isSo_210 (tgt := 162) (by decide) ?_
          refine a_sub (ls1 := [(0, Value.ref (ad 0)), (1, Value.ref (ad 161)), (2, Value.ref (ad 162)), (3, Value.ref (ad 163)), (4, Value.ref (ad 164)), (5, vI 0), (6, vI (x30 + 1))]) [2, 3, 4, 5, 6, 1, 0] rfl ?_
          refine a_wid (c_k162 + 1) (s_k162 + 6) (by omega) (by omega) ?_
          exact hag162 0 (x30 + 1) s31 h
        · replace h := h.2.2 hq
          clear hq
          refine a_aload_n (pc := 173) a 0 dL_isSo_173 rfl rfl ?_
          refine a_iload (pc := 174) a 6 dL_isSo_174 rfl ?_
          refine a_cwi (pc := 176) a (As := [Value.ref (ad 0), vI x30]) (rest := []) (fun sz => c_L_boxOf hinj hl0  h sz) (vx_cwSW 2 hts (gl_S (GL_15 _ (by decide +kernel)) (GL_15 _ (by decide +kernel)) (GL_4 _ (by decide +kernel)) (GL_15 _ (by decide +kernel))) rfl rfl rfl (by decide +kernel) ⟨Nat.le_of_ble_eq_true rfl, Nat.le_of_ble_eq_true rfl⟩) rfl rfl (Nat.le_of_ble_eq_true rfl) ⟨by show c_k162 + 1 ≤ 882; omega, by show s_k162 + 6 ≤ 5620; omega⟩ dL_isSo_176 ?_
          clear h
          intro x125 s126 h
          refine a_aload (pc := 179) a 4 dL_isSo_179 rfl ?_
          refine a_iconst (pc := 181) a dL_isSo_181 ?_
          refine a_iald (pc := 182) a (tw hinj w5) (by decide) (by decide) dL_isSo_182 ?_
          refine g_wj1 197 (c_k162 + 1) (s_k162 + 6) (fun x128 => [(0, Value.ref (ad 0)), (1, Value.ref (ad 161)), (2, Value.ref (ad 162)), (3, Value.ref (ad 163)), (4, Value.ref (ad 164)), (6, vI x30)]) (fun x128 => [vI x128, vI x125]) h ?_ ?_
          · clear h
            intro x128 h
            refine a_icmp_ne (pc := 197) a h.1 h.2.1 dL_isSo_197 (tgt := 204) (by decide) (fun hq => ?_) (fun hq => ?_)
            · replace h := h.2.2.1 hq
              clear hq
              refine a_iconst (pc := 204) a dL_isSo_204 ?_
              refine a_istore (pc := 205) a (ls1 := [(5, vI 0), (0, Value.ref (ad 0)), (1, Value.ref (ad 161)), (2, Value.ref (ad 162)), (3, Value.ref (ad 163)), (4, Value.ref (ad 164)), (6, vI x30)]) dL_isSo_205 (by decide) rfl ?_
              refine a_iinc (pc := 207) a (ls1 := [(6, vI (x30 + 1)), (5, vI 0), (0, Value.ref (ad 0)), (1, Value.ref (ad 161)), (2, Value.ref (ad 162)), (3, Value.ref (ad 163)), (4, Value.ref (ad 164))]) 6 dL_isSo_207 rfl (by decide) rfl ?_
              refine a_goto (pc := 210) a dL_isSo_210 (tgt := 162) (by decide) ?_
              refine a_sub (ls1 := [(0, Value.ref (ad 0)), (1, Value.ref (ad 161)), (2, Value.ref (ad 162)), (3, Value.ref (ad 163)), (4, Value.ref (ad 164)), (5, vI 0), (6, vI (x30 + 1))]) [2, 3, 4, 5, 6, 1, 0] rfl ?_
              refine a_wid (c_k162 + 1) (s_k162 + 6) (by omega) (by omega) ?_
              exact hag162 0 (x30 + 1) s126 h
            · replace h := h.2.2.2 hq
              clear hq
              refine a_iconst (pc := 200) a dL_isSo_200 ?_
              refine a_goto (pc := 201) a dL_isSo_201 (tgt := 205) (by decide) ?_
              refine a_istore (pc := 205) a (ls1 := [(5, vI 1), (0, Value.ref (ad 0)), (1, Value.ref (ad 161)), (2, Value.ref (ad 162)), (3, Value.ref (ad 163)), (4, Value.ref (ad 164)), (6, vI x30)]) dL_isSo_205 (by decide) rfl ?_
              refine a_iinc (pc := 207) a (ls1 := [(6, vI (x30 + 1)), (5, vI 1), (0, Value.ref (ad 0)), (1, Value.ref (ad 161)), (2, Value.ref (ad 162)), (3, Value.ref (ad 163)), (4, Value.ref (ad 164))]) 6 dL_isSo_207 rfl (by decide) rfl ?_
              refine a_goto (pc := 210) a dL_isSo_210 (tgt := 162) (by decide) ?_
              refine a_sub (ls1 := [(0, Value.ref (ad 0)), (1, Value.ref (ad 161)), (2, Value.ref (ad 162)), (3, Value.ref (ad 163)), (4, Value.ref (ad 164)), (5, vI 1), (6, vI (x30 + 1))]) [2, 3, 4, 5, 6, 1, 0] rfl ?_
              refine a_wid (c_k162 + 1) (s_k162 + 6) (by omega) (by omega) ?_
              exact hag162 1 (x30 + 1) s126 h
          · clear h
            intro jj197 hjj197 h
            refine a_if_ge (pc := 183) a h.1 dL_isSo_183 (tgt := 190) (by decide) (fun hq => ?_) (fun hq => ?_)
            · replace h := h.2.1 hq
              clear hq
              refine a_aload (pc := 190) a 4 dL_isSo_190 rfl ?_
              refine a_iconst (pc := 192) a dL_isSo_192 ?_
              refine a_iload (pc := 193) a 6 dL_isSo_193 rfl ?_
              refine a_iadd (pc := 195) a dL_isSo_195 ?_
              refine a_iald (pc := 196) a (tw hinj w5) (by decide) h.1 dL_isSo_196 ?_
              replace h := h.2
              refine a_sub (ls1 := [(0, Value.ref (ad 0)), (1, Value.ref (ad 161)), (2, Value.ref (ad 162)), (3, Value.ref (ad 163)), (4, Value.ref (ad 164)), (6, vI x30)]) [0, 1, 2, 3, 4, 6] rfl ?_
              refine a_wid (c_k162 + 1) (s_k162 + 6) (by omega) (by omega) ?_
              exact hjj197 (s126 164 (4 + x30)) h
            · replace h := h.2.2 hq
              clear hq
              refine a_iconst (pc := 186) a dL_isSo_186 ?_
              refine a_goto (pc := 187) a dL_isSo_187 (tgt := 197) (by decide) ?_
              refine a_sub (ls1 := [(0, Value.ref (ad 0)), (1, Value.ref (ad 161)), (2, Value.ref (ad 162)), (3, Value.ref (ad 163)), (4, Value.ref (ad 164)), (6, vI x30)]) [0, 1, 2, 3, 4, 6] rfl ?_
              refine a_wid (c_k162 + 1) (s_k162 + 6) (by omega) (by omega) ?_
              exact hjj197 (-1) h
    · replace h := h.2.2 hq
      clear hq
      refine a_iload (pc := 128) a 5 dL_isSo_128 rfl ?_
      refine a_if_eq (pc := 130) a h.1 dL_isSo_130 (tgt := 150) (by decide) (fun hq => ?_) (fun hq => ?_)
      · replace h := h.2.1 hq
        clear hq
        refine a_iconst (pc := 150) a dL_isSo_150 ?_
        refine a_istore (pc := 151) a (ls1 := [(5, vI 0), (0, Value.ref (ad 0)), (1, Value.ref (ad 161)), (2, Value.ref (ad 162)), (3, Value.ref (ad 163)), (4, Value.ref (ad 164)), (6, vI x27)]) dL_isSo_151 (by decide) rfl ?_
        refine a_iinc (pc := 153) a (ls1 := [(6, vI (x27 + 1)), (5, vI 0), (0, Value.ref (ad 0)), (1, Value.ref (ad 161)), (2, Value.ref (ad 162)), (3, Value.ref (ad 163)), (4, Value.ref (ad 164))]) 6 dL_isSo_153 rfl (by decide) rfl ?_
        refine a_goto (pc := 156) a dL_isSo_156 (tgt := 121) (by decide) ?_
        refine a_sub (ls1 := [(0, Value.ref (ad 0)), (1, Value.ref (ad 161)), (2, Value.ref (ad 162)), (3, Value.ref (ad 163)), (4, Value.ref (ad 164)), (5, vI 0), (6, vI (x27 + 1))]) [2, 3, 4, 5, 6, 1, 0] rfl ?_
        refine a_wid (c_k121 + 1) (s_k121 + 6) (by omega) (by omega) ?_
        exact hag121 0 (x27 + 1) s28 h
      · replace h := h.2.2 hq
        clear hq
        refine a_aload_n (pc := 133) a 0 dL_isSo_133 rfl rfl ?_
        refine a_iload (pc := 134) a 6 dL_isSo_134 rfl ?_
        refine a_cwi (pc := 136) a (As := [Value.ref (ad 0), vI x27]) (rest := []) (fun sz => c_L_valueOf hinj hl0  h sz) (vx_cwSW 2 hts (gl_S (GL_14 _ (by decide +kernel)) (GL_14 _ (by decide +kernel)) (GL_4 _ (by decide +kernel)) (GL_14 _ (by decide +kernel))) rfl rfl rfl (by decide +kernel) ⟨Nat.le_of_ble_eq_true rfl, Nat.le_of_ble_eq_true rfl⟩) rfl rfl (Nat.le_of_ble_eq_true rfl) ⟨by show c_k121 + 1 ≤ 882; omega, by show s_k121 + 6 ≤ 5620; omega⟩ dL_isSo_136 ?_
        clear h
        intro x129 s130 h
        refine a_aload_n (pc := 139) a 1 dL_isSo_139 rfl rfl ?_
        refine a_iload (pc := 140) a 6 dL_isSo_140 rfl ?_
        refine a_iald (pc := 142) a (tw hinj w2) (by decide) h.1 dL_isSo_142 ?_
        replace h := h.2
        refine a_icmp_ne (pc := 143) a h.1 h.2.1 dL_isSo_143 (tgt := 150) (by decide) (fun hq => ?_) (fun hq => ?_)
        · replace h := h.2.2.1 hq
          clear hq
          refine a_iconst (pc := 150) a dL_isSo_150 ?_
          refine a_istore (pc := 151) a (ls1 := [(5, vI 0), (0, Value.ref (ad 0)), (1, Value.ref (ad 161)), (2, Value.ref (ad 162)), (3, Value.ref (ad 163)), (4, Value.ref (ad 164)), (6, vI x27)]) dL_isSo_151 (by decide) rfl ?_
          refine a_iinc (pc := 153) a (ls1 := [(6, vI (x27 + 1)), (5, vI 0), (0, Value.ref (ad 0)), (1, Value.ref (ad 161)), (2, Value.ref (ad 162)), (3, Value.ref (ad 163)), (4, Value.ref (ad 164))]) 6 dL_isSo_153 rfl (by decide) rfl ?_
          refine a_goto (pc := 156) a dL_isSo_156 (tgt := 121) (by decide) ?_
          refine a_sub (ls1 := [(0, Value.ref (ad 0)), (1, Value.ref (ad 161)), (2, Value.ref (ad 162)), (3, Value.ref (ad 163)), (4, Value.ref (ad 164)), (5, vI 0), (6, vI (x27 + 1))]) [2, 3, 4, 5, 6, 1, 0] rfl ?_
          refine a_wid (c_k121 + 1) (s_k121 + 6) (by omega) (by omega) ?_
          exact hag121 0 (x27 + 1) s130 h
        · replace h := h.2.2.2 hq
          clear hq
          refine a_iconst (pc := 146) a dL_isSo_146 ?_
          refine a_goto (pc := 147) a dL_isSo_147 (tgt := 151) (by decide) ?_
          refine a_istore (pc := 151) a (ls1 := [(5, vI 1), (0, Value.ref (ad 0)), (1, Value.ref (ad 161)), (2, Value.ref (ad 162)), (3, Value.ref (ad 163)), (4, Value.ref (ad 164)), (6, vI x27)]) dL_isSo_151 (by decide) rfl ?_
          refine a_iinc (pc := 153) a (ls1 := [(6, vI (x27 + 1)), (5, vI 1), (0, Value.ref (ad 0)), (1, Value.ref (ad 161)), (2, Value.ref (ad 162)), (3, Value.ref (ad 163)), (4, Value.ref (ad 164))]) 6 dL_isSo_153 rfl (by decide) rfl ?_
          refine a_goto (pc := 156) a dL_isSo_156 (tgt := 121) (by decide) ?_
          refine a_sub (ls1 := [(0, Value.ref (ad 0)), (1, Value.ref (ad 161)), (2, Value.ref (ad 162)), (3, Value.ref (ad 163)), (4, Value.ref (ad 164)), (5, vI 1), (6, vI (x27 + 1))]) [2, 3, 4, 5, 6, 1, 0] rfl ?_
          refine a_wid (c_k121 + 1) (s_k121 + 6) (by omega) (by omega) ?_
          exact hag121 1 (x27 + 1) s130 h
  · clear h
    intro jj116 hjj116 h
    refine g_wj0s 115 51 634 [(0, Value.ref (ad 0)), (1, Value.ref (ad 161)), (2, Value.ref (ad 162)), (3, Value.ref (ad 163)), (4, Value.ref (ad 164))] [] h ?_ ?_
    · clear h
      intro s23 h
      refine a_iconst (pc := 115) a dL_isSo_115 ?_
      exact hjj116 0 s23 h
    · clear h
      intro jj115 hjj115 h
      refine a_icmp_ne (pc := 16) a h.1 h.2.1 dL_isSo_16 (tgt := 115) (by decide) (fun hq => ?_) (fun hq => ?_)
      · replace h := h.2.2.1 hq
        clear hq
        refine a_wid 51 634 (by omega) (by omega) ?_
        exact hjj115 s3 h
      · replace h := h.2.2.2 hq
        clear hq
        refine a_aload_n (pc := 19) a 0 dL_isSo_19 rfl rfl ?_
        refine a_cvi (pc := 20) a (As := []) (rest := []) w1 vc6 (fun sz => c_X6_firstLines hinj hl0  h sz) (cwV 0 hts (gl_V (GL_13 _ (by decide +kernel)) (GL_13 _ (by decide +kernel)) (GL_13 _ (by decide +kernel)) (GL_1 _ (by decide +kernel)) (GL_13 _ (by decide +kernel))) rfl rfl rfl (by decide +kernel) ⟨Nat.le_of_ble_eq_true rfl, Nat.le_of_ble_eq_true rfl⟩) rfl rfl (Nat.le_of_ble_eq_true rfl) ⟨Nat.le_of_ble_eq_true rfl, Nat.le_of_ble_eq_true rfl⟩ dL_isSo_20 ?_
        clear h
        intro x6 s7 h
        refine a_aload (pc := 23) a 4 dL_isSo_23 rfl ?_
        refine a_bipush (pc := 25) a dL_isSo_25 (by decide) ?_
        refine a_iald (pc := 27) a (tw hinj w5) (by decide) (by decide) dL_isSo_27 ?_
        refine a_icmp_ne (pc := 28) a h.1 h.2.1 dL_isSo_28 (tgt := 115) (by decide) (fun hq => ?_) (fun hq => ?_)
        · replace h := h.2.2.1 hq
          clear hq
          refine a_wid 51 634 (by omega) (by omega) ?_
          exact hjj115 s7 h
        · replace h := h.2.2.2 hq
          clear hq
          refine a_aload_n (pc := 31) a 0 dL_isSo_31 rfl rfl ?_
          refine a_iconst (pc := 32) a dL_isSo_32 ?_
          refine a_cwi (pc := 33) a (As := [Value.ref (ad 0), vI 0]) (rest := []) (fun sz => c_L_roundsOf hinj hl0  h sz) (vx_cwSW 2 hts (gl_S (GL_13 _ (by decide +kernel)) (GL_13 _ (by decide +kernel)) (GL_4 _ (by decide +kernel)) (GL_13 _ (by decide +kernel))) rfl rfl rfl (by decide +kernel) ⟨Nat.le_of_ble_eq_true rfl, Nat.le_of_ble_eq_true rfl⟩) rfl rfl (Nat.le_of_ble_eq_true rfl) ⟨Nat.le_of_ble_eq_true rfl, Nat.le_of_ble_eq_true rfl⟩ dL_isSo_33 ?_
          clear h
          intro x8 s9 h
          refine a_aload (pc := 36) a 4 dL_isSo_36 rfl ?_
          refine a_iconst (pc := 38) a dL_isSo_38 ?_
          refine a_iald (pc := 39) a (tw hinj w5) (by decide) (by decide) dL_isSo_39 ?_
          refine a_icmp_ne (pc := 40) a h.1 h.2.1 dL_isSo_40 (tgt := 115) (by decide) (fun hq => ?_) (fun hq => ?_)
          · replace h := h.2.2.1 hq
            clear hq
            refine a_wid 51 634 (by omega) (by omega) ?_
            exact hjj115 s9 h
          · replace h := h.2.2.2 hq
            clear hq
            refine a_aload_n (pc := 43) a 0 dL_isSo_43 rfl rfl ?_
            refine a_iconst (pc := 44) a dL_isSo_44 ?_
            refine a_cwi (pc := 45) a (As := [Value.ref (ad 0), vI 1]) (rest := []) (fun sz => c_L_roundsOf hinj hl0  h sz) (vx_cwSW 2 hts (gl_S (GL_13 _ (by decide +kernel)) (GL_13 _ (by decide +kernel)) (GL_4 _ (by decide +kernel)) (GL_13 _ (by decide +kernel))) rfl rfl rfl (by decide +kernel) ⟨Nat.le_of_ble_eq_true rfl, Nat.le_of_ble_eq_true rfl⟩) rfl rfl (Nat.le_of_ble_eq_true rfl) ⟨Nat.le_of_ble_eq_true rfl, Nat.le_of_ble_eq_true rfl⟩ dL_isSo_45 ?_
            clear h
            intro x10 s11 h
            refine a_aload (pc := 48) a 4 dL_isSo_48 rfl ?_
            refine a_iconst (pc := 50) a dL_isSo_50 ?_
            refine a_iald (pc := 51) a (tw hinj w5) (by decide) (by decide) dL_isSo_51 ?_
            refine a_icmp_ne (pc := 52) a h.1 h.2.1 dL_isSo_52 (tgt := 115) (by decide) (fun hq => ?_) (fun hq => ?_)
            · replace h := h.2.2.1 hq
              clear hq
              refine a_wid 51 634 (by omega) (by omega) ?_
              exact hjj115 s11 h
            · replace h := h.2.2.2 hq
              clear hq
              refine a_aload_n (pc := 55) a 0 dL_isSo_55 rfl rfl ?_
              refine a_iconst (pc := 56) a dL_isSo_56 ?_
              refine a_cwi (pc := 57) a (As := [Value.ref (ad 0), vI 2]) (rest := []) (fun sz => c_L_roundsOf hinj hl0  h sz) (vx_cwSW 2 hts (gl_S (GL_13 _ (by decide +kernel)) (GL_13 _ (by decide +kernel)) (GL_4 _ (by decide +kernel)) (GL_13 _ (by decide +kernel))) rfl rfl rfl (by decide +kernel) ⟨Nat.le_of_ble_eq_true rfl, Nat.le_of_ble_eq_true rfl⟩) rfl rfl (Nat.le_of_ble_eq_true rfl) ⟨Nat.le_of_ble_eq_true rfl, Nat.le_of_ble_eq_true rfl⟩ dL_isSo_57 ?_
              clear h
              intro x12 s13 h
              refine a_aload_n (pc := 60) a 1 dL_isSo_60 rfl rfl ?_
              refine a_aload_n (pc := 61) a 3 dL_isSo_61 rfl rfl ?_
              refine a_aload (pc := 62) a 4 dL_isSo_62 rfl ?_
              refine a_csi (pc := 64) a (As := [Value.ref (ad 161), Value.ref (ad 163), Value.ref (ad 164)]) (rest := [vI x12]) (fun sz => c_L_covered hinj hl0  h sz) (va_cwS 3 hts (gl_S (GL_5 _ (by decide +kernel)) (GL_5 _ (by decide +kernel)) (GL_4 _ (by decide +kernel)) (GL_5 _ (by decide +kernel))) rfl rfl rfl (by decide +kernel) ⟨Nat.le_of_ble_eq_true rfl, Nat.le_of_ble_eq_true rfl⟩) rfl rfl (Nat.le_of_ble_eq_true rfl) ⟨Nat.le_of_ble_eq_true rfl, Nat.le_of_ble_eq_true rfl⟩ dL_isSo_64 ?_
              rintro x14 s9 ⟨hs9, h9⟩
              subst s9
              replace h := h9
              clear h9
              refine a_aload (pc := 67) a 4 dL_isSo_67 rfl ?_
              refine a_iconst (pc := 69) a dL_isSo_69 ?_
              refine a_iald (pc := 70) a (tw hinj w5) (by decide) (by decide) dL_isSo_70 ?_
              refine a_iand (pc := 71) a dL_isSo_71 ?_
              refine a_csi (pc := 72) a (As := [vI (bA x14 (s13 164 3))]) (rest := [vI x12]) (fun sz => c_L_bits hinj hl0  h sz) (va_cwS 1 hts (gl_S (GL_5 _ (by decide +kernel)) (GL_5 _ (by decide +kernel)) (GL_4 _ (by decide +kernel)) (GL_5 _ (by decide +kernel))) rfl rfl rfl (by decide +kernel) ⟨Nat.le_of_ble_eq_true rfl, Nat.le_of_ble_eq_true rfl⟩) rfl rfl (Nat.le_of_ble_eq_true rfl) ⟨Nat.le_of_ble_eq_true rfl, Nat.le_of_ble_eq_true rfl⟩ dL_isSo_72 ?_
              rintro x15 s9 ⟨hs9, h9⟩
              subst s9
              replace h := h9
              clear h9
              refine a_icmp_ne (pc := 75) a h.1 h.2.1 dL_isSo_75 (tgt := 115) (by decide) (fun hq => ?_) (fun hq => ?_)
              · replace h := h.2.2.1 hq
                clear hq
                refine a_wid 51 634 (by omega) (by omega) ?_
                exact hjj115 s13 h
              · replace h := h.2.2.2 hq
                clear hq
                refine a_aload_n (pc := 78) a 0 dL_isSo_78 rfl rfl ?_
                refine a_bipush (pc := 79) a dL_isSo_79 (by decide) ?_
                refine a_cwi (pc := 81) a (As := [Value.ref (ad 0), vI 10]) (rest := []) (fun sz => c_L_valueOf hinj hl0  h sz) (vx_cwSW 2 hts (gl_S (GL_14 _ (by decide +kernel)) (GL_14 _ (by decide +kernel)) (GL_4 _ (by decide +kernel)) (GL_14 _ (by decide +kernel))) rfl rfl rfl (by decide +kernel) ⟨Nat.le_of_ble_eq_true rfl, Nat.le_of_ble_eq_true rfl⟩) rfl rfl (Nat.le_of_ble_eq_true rfl) ⟨Nat.le_of_ble_eq_true rfl, Nat.le_of_ble_eq_true rfl⟩ dL_isSo_81 ?_
                clear h
                intro x16 s17 h
                refine a_aload_n (pc := 84) a 1 dL_isSo_84 rfl rfl ?_
                refine a_aload_n (pc := 85) a 3 dL_isSo_85 rfl rfl ?_
                refine a_csi (pc := 86) a (As := [Value.ref (ad 161), Value.ref (ad 163)]) (rest := [vI x16]) (fun sz => c_L_shown hinj hl0  h sz) (va_cwS 2 hts (gl_S (GL_5 _ (by decide +kernel)) (GL_5 _ (by decide +kernel)) (GL_4 _ (by decide +kernel)) (GL_5 _ (by decide +kernel))) rfl rfl rfl (by decide +kernel) ⟨Nat.le_of_ble_eq_true rfl, Nat.le_of_ble_eq_true rfl⟩) rfl rfl (Nat.le_of_ble_eq_true rfl) ⟨Nat.le_of_ble_eq_true rfl, Nat.le_of_ble_eq_true rfl⟩ dL_isSo_86 ?_
                rintro x18 s9 ⟨hs9, h9⟩
                subst s9
                replace h := h9
                clear h9
                refine a_csi (pc := 89) a (As := [vI x18]) (rest := [vI x16]) (fun sz => c_L_bits hinj hl0  h sz) (va_cwS 1 hts (gl_S (GL_5 _ (by decide +kernel)) (GL_5 _ (by decide +kernel)) (GL_4 _ (by decide +kernel)) (GL_5 _ (by decide +kernel))) rfl rfl rfl (by decide +kernel) ⟨Nat.le_of_ble_eq_true rfl, Nat.le_of_ble_eq_true rfl⟩) rfl rfl (Nat.le_of_ble_eq_true rfl) ⟨Nat.le_of_ble_eq_true rfl, Nat.le_of_ble_eq_true rfl⟩ dL_isSo_89 ?_
                rintro x19 s9 ⟨hs9, h9⟩
                subst s9
                replace h := h9
                clear h9
                refine a_icmp_ne (pc := 92) a h.1 h.2.1 dL_isSo_92 (tgt := 115) (by decide) (fun hq => ?_) (fun hq => ?_)
                · replace h := h.2.2.1 hq
                  clear hq
                  refine a_wid 51 634 (by omega) (by omega) ?_
                  exact hjj115 s17 h
                · replace h := h.2.2.2 hq
                  clear hq
                  refine a_aload_n (pc := 95) a 0 dL_isSo_95 rfl rfl ?_
                  refine a_bipush (pc := 96) a dL_isSo_96 (by decide) ?_
                  refine a_cwi (pc := 98) a (As := [Value.ref (ad 0), vI 11]) (rest := []) (fun sz => c_L_valueOf hinj hl0  h sz) (vx_cwSW 2 hts (gl_S (GL_14 _ (by decide +kernel)) (GL_14 _ (by decide +kernel)) (GL_4 _ (by decide +kernel)) (GL_14 _ (by decide +kernel))) rfl rfl rfl (by decide +kernel) ⟨Nat.le_of_ble_eq_true rfl, Nat.le_of_ble_eq_true rfl⟩) rfl rfl (Nat.le_of_ble_eq_true rfl) ⟨Nat.le_of_ble_eq_true rfl, Nat.le_of_ble_eq_true rfl⟩ dL_isSo_98 ?_
                  clear h
                  intro x20 s21 h
                  refine a_aload (pc := 101) a 4 dL_isSo_101 rfl ?_
                  refine a_iconst (pc := 103) a dL_isSo_103 ?_
                  refine a_iald (pc := 104) a (tw hinj w5) (by decide) (by decide) dL_isSo_104 ?_
                  refine a_csi (pc := 105) a (As := [vI (s21 164 3)]) (rest := [vI x20]) (fun sz => c_L_bits hinj hl0  h sz) (va_cwS 1 hts (gl_S (GL_5 _ (by decide +kernel)) (GL_5 _ (by decide +kernel)) (GL_4 _ (by decide +kernel)) (GL_5 _ (by decide +kernel))) rfl rfl rfl (by decide +kernel) ⟨Nat.le_of_ble_eq_true rfl, Nat.le_of_ble_eq_true rfl⟩) rfl rfl (Nat.le_of_ble_eq_true rfl) ⟨Nat.le_of_ble_eq_true rfl, Nat.le_of_ble_eq_true rfl⟩ dL_isSo_105 ?_
                  rintro x22 s9 ⟨hs9, h9⟩
                  subst s9
                  replace h := h9
                  clear h9
                  refine a_icmp_ne (pc := 108) a h.1 h.2.1 dL_isSo_108 (tgt := 115) (by decide) (fun hq => ?_) (fun hq => ?_)
                  · replace h := h.2.2.1 hq
                    clear hq
                    refine a_wid 51 634 (by omega) (by omega) ?_
                    exact hjj115 s21 h
                  · replace h := h.2.2.2 hq
                    clear hq
                    refine a_iconst (pc := 111) a dL_isSo_111 ?_
                    refine a_goto (pc := 112) a dL_isSo_112 (tgt := 116) (by decide) ?_
                    refine a_wid 51 634 (by omega) (by omega) ?_
                    exact hjj116 1 s21 h
