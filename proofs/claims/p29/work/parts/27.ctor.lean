def zI : Nat → Int32 := fun _ => iI 0
def kRank : Nat → Int32 := (upd (upd (upd (upd (upd (upd (upd (upd (upd (upd (upd (upd zI 0 (iI 0)) 1 (iI 1)) 2 (iI 2)) 3 (iI 3)) 4 (iI 4)) 5 (iI 5)) 6 (iI 6)) 7 (iI 7)) 8 (iI 8)) 9 (iI 9)) 10 (iI 10)) 11 (iI 11))
def kGroup : Nat → Int32 := (upd (upd (upd (upd (upd (upd (upd (upd (upd (upd (upd (upd zI 0 (iI (-1))) 1 (iI (-1))) 2 (iI (-1))) 3 (iI (-1))) 4 (iI (-1))) 5 (iI (-1))) 6 (iI (-1))) 7 (iI (-1))) 8 (iI (-1))) 9 (iI (-1))) 10 (iI (-1))) 11 (iI (-1)))
def kWin : Nat → Int32 := (upd (upd (upd zI 2 (iI 100)) 3 (iI 100)) 4 (iI 5))
def kSet : Nat → Int32 := (upd (upd (upd (upd zI 0 (iI 3)) 1 (iI 1)) 2 (iI 20)) 3 (iI 5))
def boxF (u : Nat → Nat) (b : Nat) : List Value := [vI 0, vI 0, vI 0, vI 0, vI 0, vI 0]
def boxA (X : XI) (u : Nat → Nat) (b : Nat) : va_W := []
def rngF (u : Nat → Nat) (b : Nat) : List Value := [.ref (u (b + 1)), .ref (u (b + 2)), .ref (u (b + 3)), .ref (u (b + 4)), .ref (u (b + 5)), .ref (u (b + 6))]
def rngA (X : XI) (u : Nat → Nat) (b : Nat) : va_W := [((u (b + 1)), .inl (X.1, 12, .inl zI)), ((u (b + 2)), .inl (X.1, 72, .inl zI)), ((u (b + 3)), .inl (X.1, 12, .inl zI)), ((u (b + 4)), .inl (X.1, 72, .inl zI)), ((u (b + 5)), .inl (X.1, 72, .inl zI)), ((u (b + 6)), .inl (X.1, 72, .inl zI))]
def linF (u : Nat → Nat) (b : Nat) : List Value := [vI 0, .ref (u (b + 1)), .ref (u (b + 2)), .ref (u (b + 3)), .ref (u (b + 4)), .ref (u (b + 5)), .ref (u (b + 6)), .ref (u (b + 7)), .ref (u (b + 8)), vI 0, vI 0, .ref (u (b + 9)), vI 0, .ref (u (b + 10))]
def linA (X : XI) (u : Nat → Nat) (b : Nat) : va_W := [((u (b + 1)), .inl (X.1, 77, .inl zI)), ((u (b + 2)), .inl (X.1, 77, .inl zI)), ((u (b + 3)), .inl (X.1, 77, .inl zI)), ((u (b + 4)), .inl (X.1, 77, .inl zI)), ((u (b + 5)), .inl (X.1, 77, .inl zI)), ((u (b + 6)), .inl (X.1, 77, .inl zI)), ((u (b + 7)), .inl (X.1, 77, .inl zI)), ((u (b + 8)), .inl (X.1, 77, .inl zI)), ((u (b + 9)), .inl (X.1, 12, .inl zI)), ((u (b + 10)), .inl (X.2.1, 5, .inl zI))]
def mapF (u : Nat → Nat) (b : Nat) : List Value := [.ref (u (b + 1)), .ref (u (b + 2)), .ref (u (b + 3)), .ref (u (b + 4)), .ref (u (b + 5)), vI 0, .ref (u (b + 6)), .ref (u (b + 7)), .ref (u (b + 8)), .ref (u (b + 9)), .ref (u (b + 10)), .ref (u (b + 11)), .ref (u (b + 12))]
def mapA (X : XI) (u : Nat → Nat) (b : Nat) : va_W := [((u (b + 1)), .inl (X.1, 40, .inl zI)), ((u (b + 2)), .inl (X.1, 40, .inl zI)), ((u (b + 3)), .inl (X.1, 40, .inl zI)), ((u (b + 4)), .inl (X.1, 40, .inl zI)), ((u (b + 5)), .inl (X.1, 40, .inl zI)), ((u (b + 6)), .inl (X.1, 12, .inl kRank)), ((u (b + 7)), .inl (X.1, 12, .inl kGroup)), ((u (b + 8)), .inl (X.1, 12, .inl zI)), ((u (b + 9)), .inl (X.1, 60, .inl zI)), ((u (b + 10)), .inl (X.1, 5, .inl zI)), ((u (b + 11)), .inl (X.1, 5, .inl kWin)), ((u (b + 12)), .inl (X.1, 4, .inl kSet))]
def legF (u : Nat → Nat) (b : Nat) : List Value := [vI 0, .ref (u (b + 1)), .ref (u (b + 2)), vI 0, vI 0, .ref (u (b + 3)), .ref (u (b + 10)), .ref (u (b + 21)), .ref (u (b + 32)), vI 0, vI 0, vI 0]
def legA (X : XI) (u : Nat → Nat) (b : Nat) : va_W := ((((((([(u (b + 1), .inl (X.2.1, 40, .inl zI)), (u (b + 2), .inl (X.2.1, 40, .inl zI)), (u (b + 3), .inr (4, rngF u (b + 3)))] ++ rngA X u (b + 3)) ++ [(u (b + 10), .inr (2, linF u (b + 10)))]) ++ linA X u (b + 10)) ++ [(u (b + 21), .inr (2, linF u (b + 21)))]) ++ linA X u (b + 21)) ++ [(u (b + 32), .inr (0, boxF u (b + 32)))]) ++ boxA X u (b + 32))
def txtF (u : Nat → Nat) (b : Nat) : List Value := [.ref (u (b + 1)), vI 0, .ref (u (b + 2)), vI 0, vI 0]
def txtA (X : XI) (u : Nat → Nat) (b : Nat) : va_W := [(u (b + 1), .inl (X.1, 160, .inl zI)), (u (b + 2), .inr (3, mapF u (b + 2)))] ++ mapA X u (b + 2)
def slF (u : Nat → Nat) (b : Nat) : List Value := [.ref (u (b + 1)), .ref (u (b + 14)), .ref (u (b + 47)), .ref (u (b + 60)), .ref (u (b + 93)), .ref (u (b + 108)), vI 0, vI 0]
def slA (X : XI) (u : Nat → Nat) (b : Nat) : va_W := (((((((((((((((((([(u (b + 1), .inr (3, mapF u (b + 1)))] ++ mapA X u (b + 1)) ++ [(u (b + 14), .inr (1, legF u (b + 14)))]) ++ legA X u (b + 14)) ++ [(u (b + 47), .inr (3, mapF u (b + 47)))]) ++ mapA X u (b + 47)) ++ [(u (b + 60), .inr (1, legF u (b + 60)))]) ++ legA X u (b + 60)) ++ [(u (b + 93), .inr (5, txtF u (b + 93)))]) ++ txtA X u (b + 93)) ++ [(u (b + 108), .inl (X.2.2, 4, .inr (.inr (.inr (.inr (va_up (va_up (va_up (va_up (fun _ => none) 0 (some (u (b + 109)))) 1 (some (u (b + 122)))) 2 (some (u (b + 135)))) 3 (some (u (b + 148)))))))))]) ++ [(u (b + 109), .inr (3, mapF u (b + 109)))]) ++ mapA X u (b + 109)) ++ [(u (b + 122), .inr (3, mapF u (b + 122)))]) ++ mapA X u (b + 122)) ++ [(u (b + 135), .inr (3, mapF u (b + 135)))]) ++ mapA X u (b + 135)) ++ [(u (b + 148), .inr (3, mapF u (b + 148)))]) ++ mapA X u (b + 148))
/-- the addresses of a block: its object's own, then those behind it -/
def uu (h : Nat) (u : Nat → Nat) : Nat → Nat := fun k => match k with
  | 0 => h
  | k + 1 => u (k + 1)
theorem ow_init {ws : va_W} {pp h ci : Nat} {fs : List Value} (h0 : ws[pp]? = some (h, .inr (ci, fs))) : ws = OW ws pp h ci fs [] := by
  rw [OW, List.append_nil]
  refine List.ext_getElem? fun i => ?_
  have hp : pp < ws.length := (List.getElem?_eq_some_iff.mp h0).1
  by_cases e : i = pp
  · subst e; rw [List.getElem?_set_self hp, h0]
  · rw [List.getElem?_set_ne (Ne.symm e)]
set_option maxRecDepth 100000 in
set_option maxHeartbeats 4000000 in
theorem c_X0_init {l : Launch} {D : va_G} {X : XI} (hl0 : l.stackTraces = false) {ws : va_W} {pp h : Nat} (h0 : ws[pp]? = some (h, .inr (0, [vI 0, vI 0, vI 0, vI 0, vI 0, vI 0]))) (sz : Nat) : Met l yX0_init (WW (.code yX0_init cX0_init 1 none)) { frames := 1, cells := 0, slots := 0, locals := 12 } (va_Pc [.ref h] (WC D X ws sz)) (QC D (va_A ws sz) (fun u => OW ws pp h 0 (boxF (uu h u) 0) (boxA X (uu h u) 0))) 0 0 (va_A ws sz) := by
  have hp : pp < ws.length := (List.getElem?_eq_some_iff.mp h0).1
  refine m_start (own := RX0) (cc := cX0_init) (maxL := 1) (by decide) rfl rfl rfl (Nat.le_of_ble_eq_true rfl) ?_
  intro p e s m below meth c a hr hn hsz
  have hts := a.1.2.2.2.2
  have w1 := hts (Cond.methodLink RX0 3 objectInit) (List.mem_cons_of_mem _ (GL_4 _ (by decide +kernel)))
  have w2 := hts (Cond.instanceMethod objectInit) (List.mem_cons_of_mem _ (GL_1 _ (by decide +kernel)))
  have w3 := hts (Cond.code objectInit ⟨#[0xb1]⟩ 1 none) (List.mem_cons_of_mem _ (GL_1 _ (by decide +kernel)))
  refine m_eq (ws1 := OW ws pp h 0 [vI 0, vI 0, vI 0, vI 0, vI 0, vI 0] []) (ow_init h0) ?_
  refine m_aload_n (pc := 0) a 0 dX0_init_0 rfl rfl ?_
  refine m_obj (pc := 1) a w1 w2 w3 (Nat.le_of_ble_eq_true rfl) (Nat.le_of_ble_eq_true rfl) dX0_init_1 ?_
  exact m_ret (pc := 4) a (fun k => ([h] : List Nat).getD k 0) hr (Nat.le_of_ble_eq_true rfl) (Nat.le_of_ble_eq_true rfl) rfl dX0_init_4

set_option maxRecDepth 100000 in
set_option maxHeartbeats 4000000 in
theorem c_X4_init {l : Launch} {D : va_G} {X : XI} (hl0 : l.stackTraces = false) {ws : va_W} {pp h : Nat} (h0 : ws[pp]? = some (h, .inr (4, [Value.null, Value.null, Value.null, Value.null, Value.null, Value.null]))) (sz : Nat) : Met l yX4_init (WW (.code yX4_init cX4_init 1 none)) { frames := 1, cells := 6, slots := 312, locals := 12 } (va_Pc [.ref h] (WC D X ws sz)) (QC D (va_A ws sz) (fun u => OW ws pp h 4 (rngF (uu h u) 0) (rngA X (uu h u) 0))) 6 312 (va_A ws sz) := by
  have hp : pp < ws.length := (List.getElem?_eq_some_iff.mp h0).1
  refine m_start (own := RX4) (cc := cX4_init) (maxL := 1) (by decide) rfl rfl rfl (Nat.le_of_ble_eq_true rfl) ?_
  intro p e s m below meth c a hr hn hsz
  have hts := a.1.2.2.2.2
  have w1 := hts (Cond.methodLink RX4 3 objectInit) (List.mem_cons_of_mem _ (GL_3 _ (by decide +kernel)))
  have w2 := hts (Cond.instanceMethod objectInit) (List.mem_cons_of_mem _ (GL_1 _ (by decide +kernel)))
  have w3 := hts (Cond.code objectInit ⟨#[0xb1]⟩ 1 none) (List.mem_cons_of_mem _ (GL_1 _ (by decide +kernel)))
  have w4 := hts (Cond.arrayClass .int) (List.mem_cons_of_mem _ (GL_1 _ (by decide +kernel)))
  have w5 := hts (Cond.fieldLink RX4 9 "SightLegend$Ranges" "total" "[I") (List.mem_cons_of_mem _ (GL_3 _ (by decide +kernel)))
  have w6 : ∀ w ∈ u_ws RX4 TX4 6, w ∈ WW (.code yX4_init cX4_init 1 none) := fun w h => List.mem_cons_of_mem _ (inlX4 w h)
  have w7 := hts (Cond.fieldLink RX4 15 "SightLegend$Ranges" "classSigns" "[I") (List.mem_cons_of_mem _ (GL_3 _ (by decide +kernel)))
  have w8 := hts (Cond.fieldLink RX4 18 "SightLegend$Ranges" "size" "[I") (List.mem_cons_of_mem _ (GL_3 _ (by decide +kernel)))
  have w9 := hts (Cond.fieldLink RX4 21 "SightLegend$Ranges" "first" "[I") (List.mem_cons_of_mem _ (GL_3 _ (by decide +kernel)))
  have w10 := hts (Cond.fieldLink RX4 24 "SightLegend$Ranges" "last" "[I") (List.mem_cons_of_mem _ (GL_3 _ (by decide +kernel)))
  have w11 := hts (Cond.fieldLink RX4 27 "SightLegend$Ranges" "signs" "[I") (List.mem_cons_of_mem _ (GL_3 _ (by decide +kernel)))
  refine m_eq (ws1 := OW ws pp h 4 [Value.null, Value.null, Value.null, Value.null, Value.null, Value.null] []) (ow_init h0) ?_
  refine m_aload_n (pc := 0) a 0 dX4_init_0 rfl rfl ?_
  refine m_obj (pc := 1) a w1 w2 w3 (Nat.le_of_ble_eq_true rfl) (Nat.le_of_ble_eq_true rfl) dX4_init_1 ?_
  refine m_aload_n (pc := 4) a 0 dX4_init_4 rfl rfl ?_
  refine m_bipush (pc := 5) a dX4_init_5 (by decide) ?_
  refine m_newI (pc := 7) a (n := 12) rfl (by decide) w4 (Nat.le_of_ble_eq_true rfl) (Nat.le_of_ble_eq_true rfl) dX4_init_7 (fun q1 => ?_)
  refine m_putF (pc := 9) a 0 hp vc4 w6 w5 (by decide) tyX4 tyX4_ok nmX4 rfl hn rfl (ty := tyX4 0) (tyX4_ok 0 (by decide)) rfl rfl (Nat.le_of_ble_eq_true rfl) dX4_init_9 ?_
  refine m_aload_n (pc := 12) a 0 dX4_init_12 rfl rfl ?_
  refine m_bipush (pc := 13) a dX4_init_13 (by decide) ?_
  refine m_newI (pc := 15) a (n := 72) rfl (by decide) w4 (Nat.le_of_ble_eq_true rfl) (Nat.le_of_ble_eq_true rfl) dX4_init_15 (fun q2 => ?_)
  refine m_putF (pc := 17) a 1 hp vc4 w6 w7 (by decide) tyX4 tyX4_ok nmX4 rfl hn rfl (ty := tyX4 1) (tyX4_ok 1 (by decide)) rfl rfl (Nat.le_of_ble_eq_true rfl) dX4_init_17 ?_
  refine m_aload_n (pc := 20) a 0 dX4_init_20 rfl rfl ?_
  refine m_bipush (pc := 21) a dX4_init_21 (by decide) ?_
  refine m_newI (pc := 23) a (n := 12) rfl (by decide) w4 (Nat.le_of_ble_eq_true rfl) (Nat.le_of_ble_eq_true rfl) dX4_init_23 (fun q3 => ?_)
  refine m_putF (pc := 25) a 2 hp vc4 w6 w8 (by decide) tyX4 tyX4_ok nmX4 rfl hn rfl (ty := tyX4 2) (tyX4_ok 2 (by decide)) rfl rfl (Nat.le_of_ble_eq_true rfl) dX4_init_25 ?_
  refine m_aload_n (pc := 28) a 0 dX4_init_28 rfl rfl ?_
  refine m_bipush (pc := 29) a dX4_init_29 (by decide) ?_
  refine m_newI (pc := 31) a (n := 72) rfl (by decide) w4 (Nat.le_of_ble_eq_true rfl) (Nat.le_of_ble_eq_true rfl) dX4_init_31 (fun q4 => ?_)
  refine m_putF (pc := 33) a 3 hp vc4 w6 w9 (by decide) tyX4 tyX4_ok nmX4 rfl hn rfl (ty := tyX4 3) (tyX4_ok 3 (by decide)) rfl rfl (Nat.le_of_ble_eq_true rfl) dX4_init_33 ?_
  refine m_aload_n (pc := 36) a 0 dX4_init_36 rfl rfl ?_
  refine m_bipush (pc := 37) a dX4_init_37 (by decide) ?_
  refine m_newI (pc := 39) a (n := 72) rfl (by decide) w4 (Nat.le_of_ble_eq_true rfl) (Nat.le_of_ble_eq_true rfl) dX4_init_39 (fun q5 => ?_)
  refine m_putF (pc := 41) a 4 hp vc4 w6 w10 (by decide) tyX4 tyX4_ok nmX4 rfl hn rfl (ty := tyX4 4) (tyX4_ok 4 (by decide)) rfl rfl (Nat.le_of_ble_eq_true rfl) dX4_init_41 ?_
  refine m_aload_n (pc := 44) a 0 dX4_init_44 rfl rfl ?_
  refine m_bipush (pc := 45) a dX4_init_45 (by decide) ?_
  refine m_newI (pc := 47) a (n := 72) rfl (by decide) w4 (Nat.le_of_ble_eq_true rfl) (Nat.le_of_ble_eq_true rfl) dX4_init_47 (fun q6 => ?_)
  refine m_putF (pc := 49) a 5 hp vc4 w6 w11 (by decide) tyX4 tyX4_ok nmX4 rfl hn rfl (ty := tyX4 5) (tyX4_ok 5 (by decide)) rfl rfl (Nat.le_of_ble_eq_true rfl) dX4_init_49 ?_
  exact m_ret (pc := 52) a (fun k => ([h, q1, q2, q3, q4, q5, q6] : List Nat).getD k 0) hr (Nat.le_of_ble_eq_true rfl) (Nat.le_of_ble_eq_true rfl) rfl dX4_init_52

set_option maxRecDepth 100000 in
set_option maxHeartbeats 4000000 in
theorem c_X2_init {l : Launch} {D : va_G} {X : XI} (hl0 : l.stackTraces = false) {ws : va_W} {pp h : Nat} (h0 : ws[pp]? = some (h, .inr (2, [vI 0, Value.null, Value.null, Value.null, Value.null, Value.null, Value.null, Value.null, Value.null, vI 0, vI 0, Value.null, vI 0, Value.null]))) (sz : Nat) : Met l yX2_init (WW (.code yX2_init cX2_init 1 none)) { frames := 1, cells := 10, slots := 633, locals := 12 } (va_Pc [.ref h] (WC D X ws sz)) (QC D (va_A ws sz) (fun u => OW ws pp h 2 (linF (uu h u) 0) (linA X (uu h u) 0))) 10 633 (va_A ws sz) := by
  have hp : pp < ws.length := (List.getElem?_eq_some_iff.mp h0).1
  refine m_start (own := RX2) (cc := cX2_init) (maxL := 1) (by decide) rfl rfl rfl (Nat.le_of_ble_eq_true rfl) ?_
  intro p e s m below meth c a hr hn hsz
  have hts := a.1.2.2.2.2
  have w1 := hts (Cond.methodLink RX2 3 objectInit) (List.mem_cons_of_mem _ (GL_4 _ (by decide +kernel)))
  have w2 := hts (Cond.instanceMethod objectInit) (List.mem_cons_of_mem _ (GL_1 _ (by decide +kernel)))
  have w3 := hts (Cond.code objectInit ⟨#[0xb1]⟩ 1 none) (List.mem_cons_of_mem _ (GL_1 _ (by decide +kernel)))
  have w4 := hts (Cond.arrayClass .int) (List.mem_cons_of_mem _ (GL_1 _ (by decide +kernel)))
  have w5 := hts (Cond.fieldLink RX2 9 "SightLegend$Lines" "type" "[I") (List.mem_cons_of_mem _ (GL_4 _ (by decide +kernel)))
  have w6 : ∀ w ∈ u_ws RX2 TX2 14, w ∈ WW (.code yX2_init cX2_init 1 none) := fun w h => List.mem_cons_of_mem _ (inlX2 w h)
  have w7 := hts (Cond.fieldLink RX2 15 "SightLegend$Lines" "kind" "[I") (List.mem_cons_of_mem _ (GL_4 _ (by decide +kernel)))
  have w8 := hts (Cond.fieldLink RX2 18 "SightLegend$Lines" "group" "[I") (List.mem_cons_of_mem _ (GL_4 _ (by decide +kernel)))
  have w9 := hts (Cond.fieldLink RX2 21 "SightLegend$Lines" "first" "[I") (List.mem_cons_of_mem _ (GL_4 _ (by decide +kernel)))
  have w10 := hts (Cond.fieldLink RX2 24 "SightLegend$Lines" "last" "[I") (List.mem_cons_of_mem _ (GL_4 _ (by decide +kernel)))
  have w11 := hts (Cond.fieldLink RX2 27 "SightLegend$Lines" "signs" "[I") (List.mem_cons_of_mem _ (GL_4 _ (by decide +kernel)))
  have w12 := hts (Cond.fieldLink RX2 30 "SightLegend$Lines" "column" "[I") (List.mem_cons_of_mem _ (GL_4 _ (by decide +kernel)))
  have w13 := hts (Cond.fieldLink RX2 33 "SightLegend$Lines" "place" "[I") (List.mem_cons_of_mem _ (GL_4 _ (by decide +kernel)))
  have w14 := hts (Cond.fieldLink RX2 36 "SightLegend$Lines" "order" "[I") (List.mem_cons_of_mem _ (GL_4 _ (by decide +kernel)))
  have w15 := hts (Cond.arrayClass .boolean) (List.mem_cons_of_mem _ (GL_2 _ (by decide +kernel)))
  have w16 := hts (Cond.fieldLink RX2 39 "SightLegend$Lines" "groupDone" "[Z") (List.mem_cons_of_mem _ (GL_4 _ (by decide +kernel)))
  refine m_eq (ws1 := OW ws pp h 2 [vI 0, Value.null, Value.null, Value.null, Value.null, Value.null, Value.null, Value.null, Value.null, vI 0, vI 0, Value.null, vI 0, Value.null] []) (ow_init h0) ?_
  refine m_aload_n (pc := 0) a 0 dX2_init_0 rfl rfl ?_
  refine m_obj (pc := 1) a w1 w2 w3 (Nat.le_of_ble_eq_true rfl) (Nat.le_of_ble_eq_true rfl) dX2_init_1 ?_
  refine m_aload_n (pc := 4) a 0 dX2_init_4 rfl rfl ?_
  refine m_bipush (pc := 5) a dX2_init_5 (by decide) ?_
  refine m_newI (pc := 7) a (n := 77) rfl (by decide) w4 (Nat.le_of_ble_eq_true rfl) (Nat.le_of_ble_eq_true rfl) dX2_init_7 (fun q1 => ?_)
  refine m_putF (pc := 9) a 1 hp vc2 w6 w5 (by decide) tyX2 tyX2_ok nmX2 rfl hn rfl (ty := tyX2 1) (tyX2_ok 1 (by decide)) rfl rfl (Nat.le_of_ble_eq_true rfl) dX2_init_9 ?_
  refine m_aload_n (pc := 12) a 0 dX2_init_12 rfl rfl ?_
  refine m_bipush (pc := 13) a dX2_init_13 (by decide) ?_
  refine m_newI (pc := 15) a (n := 77) rfl (by decide) w4 (Nat.le_of_ble_eq_true rfl) (Nat.le_of_ble_eq_true rfl) dX2_init_15 (fun q2 => ?_)
  refine m_putF (pc := 17) a 2 hp vc2 w6 w7 (by decide) tyX2 tyX2_ok nmX2 rfl hn rfl (ty := tyX2 2) (tyX2_ok 2 (by decide)) rfl rfl (Nat.le_of_ble_eq_true rfl) dX2_init_17 ?_
  refine m_aload_n (pc := 20) a 0 dX2_init_20 rfl rfl ?_
  refine m_bipush (pc := 21) a dX2_init_21 (by decide) ?_
  refine m_newI (pc := 23) a (n := 77) rfl (by decide) w4 (Nat.le_of_ble_eq_true rfl) (Nat.le_of_ble_eq_true rfl) dX2_init_23 (fun q3 => ?_)
  refine m_putF (pc := 25) a 3 hp vc2 w6 w8 (by decide) tyX2 tyX2_ok nmX2 rfl hn rfl (ty := tyX2 3) (tyX2_ok 3 (by decide)) rfl rfl (Nat.le_of_ble_eq_true rfl) dX2_init_25 ?_
  refine m_aload_n (pc := 28) a 0 dX2_init_28 rfl rfl ?_
  refine m_bipush (pc := 29) a dX2_init_29 (by decide) ?_
  refine m_newI (pc := 31) a (n := 77) rfl (by decide) w4 (Nat.le_of_ble_eq_true rfl) (Nat.le_of_ble_eq_true rfl) dX2_init_31 (fun q4 => ?_)
  refine m_putF (pc := 33) a 4 hp vc2 w6 w9 (by decide) tyX2 tyX2_ok nmX2 rfl hn rfl (ty := tyX2 4) (tyX2_ok 4 (by decide)) rfl rfl (Nat.le_of_ble_eq_true rfl) dX2_init_33 ?_
  refine m_aload_n (pc := 36) a 0 dX2_init_36 rfl rfl ?_
  refine m_bipush (pc := 37) a dX2_init_37 (by decide) ?_
  refine m_newI (pc := 39) a (n := 77) rfl (by decide) w4 (Nat.le_of_ble_eq_true rfl) (Nat.le_of_ble_eq_true rfl) dX2_init_39 (fun q5 => ?_)
  refine m_putF (pc := 41) a 5 hp vc2 w6 w10 (by decide) tyX2 tyX2_ok nmX2 rfl hn rfl (ty := tyX2 5) (tyX2_ok 5 (by decide)) rfl rfl (Nat.le_of_ble_eq_true rfl) dX2_init_41 ?_
  refine m_aload_n (pc := 44) a 0 dX2_init_44 rfl rfl ?_
  refine m_bipush (pc := 45) a dX2_init_45 (by decide) ?_
  refine m_newI (pc := 47) a (n := 77) rfl (by decide) w4 (Nat.le_of_ble_eq_true rfl) (Nat.le_of_ble_eq_true rfl) dX2_init_47 (fun q6 => ?_)
  refine m_putF (pc := 49) a 6 hp vc2 w6 w11 (by decide) tyX2 tyX2_ok nmX2 rfl hn rfl (ty := tyX2 6) (tyX2_ok 6 (by decide)) rfl rfl (Nat.le_of_ble_eq_true rfl) dX2_init_49 ?_
  refine m_aload_n (pc := 52) a 0 dX2_init_52 rfl rfl ?_
  refine m_bipush (pc := 53) a dX2_init_53 (by decide) ?_
  refine m_newI (pc := 55) a (n := 77) rfl (by decide) w4 (Nat.le_of_ble_eq_true rfl) (Nat.le_of_ble_eq_true rfl) dX2_init_55 (fun q7 => ?_)
  refine m_putF (pc := 57) a 7 hp vc2 w6 w12 (by decide) tyX2 tyX2_ok nmX2 rfl hn rfl (ty := tyX2 7) (tyX2_ok 7 (by decide)) rfl rfl (Nat.le_of_ble_eq_true rfl) dX2_init_57 ?_
  refine m_aload_n (pc := 60) a 0 dX2_init_60 rfl rfl ?_
  refine m_bipush (pc := 61) a dX2_init_61 (by decide) ?_
  refine m_newI (pc := 63) a (n := 77) rfl (by decide) w4 (Nat.le_of_ble_eq_true rfl) (Nat.le_of_ble_eq_true rfl) dX2_init_63 (fun q8 => ?_)
  refine m_putF (pc := 65) a 8 hp vc2 w6 w13 (by decide) tyX2 tyX2_ok nmX2 rfl hn rfl (ty := tyX2 8) (tyX2_ok 8 (by decide)) rfl rfl (Nat.le_of_ble_eq_true rfl) dX2_init_65 ?_
  refine m_aload_n (pc := 68) a 0 dX2_init_68 rfl rfl ?_
  refine m_bipush (pc := 69) a dX2_init_69 (by decide) ?_
  refine m_newI (pc := 71) a (n := 12) rfl (by decide) w4 (Nat.le_of_ble_eq_true rfl) (Nat.le_of_ble_eq_true rfl) dX2_init_71 (fun q9 => ?_)
  refine m_putF (pc := 73) a 11 hp vc2 w6 w14 (by decide) tyX2 tyX2_ok nmX2 rfl hn rfl (ty := tyX2 11) (tyX2_ok 11 (by decide)) rfl rfl (Nat.le_of_ble_eq_true rfl) dX2_init_73 ?_
  refine m_aload_n (pc := 76) a 0 dX2_init_76 rfl rfl ?_
  refine m_iconst (pc := 77) a dX2_init_77 ?_
  refine m_newZ (pc := 78) a (n := 5) rfl (by decide) w15 (Nat.le_of_ble_eq_true rfl) (Nat.le_of_ble_eq_true rfl) dX2_init_78 (fun q10 => ?_)
  refine m_putF (pc := 80) a 13 hp vc2 w6 w16 (by decide) tyX2 tyX2_ok nmX2 rfl hn rfl (ty := tyX2 13) (tyX2_ok 13 (by decide)) rfl rfl (Nat.le_of_ble_eq_true rfl) dX2_init_80 ?_
  exact m_ret (pc := 83) a (fun k => ([h, q1, q2, q3, q4, q5, q6, q7, q8, q9, q10] : List Nat).getD k 0) hr (Nat.le_of_ble_eq_true rfl) (Nat.le_of_ble_eq_true rfl) rfl dX2_init_83

set_option maxRecDepth 100000 in
set_option maxHeartbeats 4000000 in
theorem c_X3_init {l : Launch} {D : va_G} {X : XI} (hl0 : l.stackTraces = false) {ws : va_W} {pp h : Nat} (h0 : ws[pp]? = some (h, .inr (3, [Value.null, Value.null, Value.null, Value.null, Value.null, vI 0, Value.null, Value.null, Value.null, Value.null, Value.null, Value.null, Value.null]))) (sz : Nat) : Met l yX3_init (WW (.code yX3_init cX3_init 2 none)) { frames := 1, cells := 12, slots := 310, locals := 12 } (va_Pc [.ref h] (WC D X ws sz)) (QC D (va_A ws sz) (fun u => OW ws pp h 3 (mapF (uu h u) 0) (mapA X (uu h u) 0))) 12 310 (va_A ws sz) := by
  have hp : pp < ws.length := (List.getElem?_eq_some_iff.mp h0).1
  refine m_start (own := RX3) (cc := cX3_init) (maxL := 2) (by decide) rfl rfl rfl (Nat.le_of_ble_eq_true rfl) ?_
  intro p e s m below meth c a hr hn hsz
  have hts := a.1.2.2.2.2
  have w1 := hts (Cond.methodLink RX3 3 objectInit) (List.mem_cons_of_mem _ (GL_2 _ (by decide +kernel)))
  have w2 := hts (Cond.instanceMethod objectInit) (List.mem_cons_of_mem _ (GL_1 _ (by decide +kernel)))
  have w3 := hts (Cond.code objectInit ⟨#[0xb1]⟩ 1 none) (List.mem_cons_of_mem _ (GL_1 _ (by decide +kernel)))
  have w4 := hts (Cond.arrayClass .int) (List.mem_cons_of_mem _ (GL_1 _ (by decide +kernel)))
  have w5 := hts (Cond.fieldLink RX3 9 "SightLegend$MapState" "signKind" "[I") (List.mem_cons_of_mem _ (GL_2 _ (by decide +kernel)))
  have w6 : ∀ w ∈ u_ws RX3 TX3 13, w ∈ WW (.code yX3_init cX3_init 2 none) := fun w h => List.mem_cons_of_mem _ (inlX3 w h)
  have w7 := hts (Cond.fieldLink RX3 15 "SightLegend$MapState" "signColumn" "[I") (List.mem_cons_of_mem _ (GL_2 _ (by decide +kernel)))
  have w8 := hts (Cond.fieldLink RX3 18 "SightLegend$MapState" "signRow" "[I") (List.mem_cons_of_mem _ (GL_2 _ (by decide +kernel)))
  have w9 := hts (Cond.fieldLink RX3 21 "SightLegend$MapState" "signValue" "[I") (List.mem_cons_of_mem _ (GL_2 _ (by decide +kernel)))
  have w10 := hts (Cond.fieldLink RX3 24 "SightLegend$MapState" "signLevel" "[I") (List.mem_cons_of_mem _ (GL_2 _ (by decide +kernel)))
  have w11 := hts (Cond.fieldLink RX3 27 "SightLegend$MapState" "rank" "[I") (List.mem_cons_of_mem _ (GL_2 _ (by decide +kernel)))
  have w12 := hts (Cond.fieldLink RX3 30 "SightLegend$MapState" "group" "[I") (List.mem_cons_of_mem _ (GL_2 _ (by decide +kernel)))
  have w13 := hts (Cond.fieldLink RX3 33 "SightLegend$MapState" "limitCount" "[I") (List.mem_cons_of_mem _ (GL_2 _ (by decide +kernel)))
  have w14 := hts (Cond.fieldLink RX3 36 "SightLegend$MapState" "limits" "[I") (List.mem_cons_of_mem _ (GL_2 _ (by decide +kernel)))
  have w15 := hts (Cond.fieldLink RX3 39 "SightLegend$MapState" "way" "[I") (List.mem_cons_of_mem _ (GL_2 _ (by decide +kernel)))
  have w16 := hts (Cond.fieldLink RX3 42 "SightLegend$MapState" "window" "[I") (List.mem_cons_of_mem _ (GL_2 _ (by decide +kernel)))
  have w17 := hts (Cond.fieldLink RX3 45 "SightLegend$MapState" "settings" "[I") (List.mem_cons_of_mem _ (GL_2 _ (by decide +kernel)))
  refine m_eq (ws1 := OW ws pp h 3 [Value.null, Value.null, Value.null, Value.null, Value.null, vI 0, Value.null, Value.null, Value.null, Value.null, Value.null, Value.null, Value.null] []) (ow_init h0) ?_
  refine m_aload_n (pc := 0) a 0 dX3_init_0 rfl rfl ?_
  refine m_obj (pc := 1) a w1 w2 w3 (Nat.le_of_ble_eq_true rfl) (Nat.le_of_ble_eq_true rfl) dX3_init_1 ?_
  refine m_aload_n (pc := 4) a 0 dX3_init_4 rfl rfl ?_
  refine m_bipush (pc := 5) a dX3_init_5 (by decide) ?_
  refine m_newI (pc := 7) a (n := 40) rfl (by decide) w4 (Nat.le_of_ble_eq_true rfl) (Nat.le_of_ble_eq_true rfl) dX3_init_7 (fun q1 => ?_)
  refine m_putF (pc := 9) a 0 hp vc3 w6 w5 (by decide) tyX3 tyX3_ok nmX3 rfl hn rfl (ty := tyX3 0) (tyX3_ok 0 (by decide)) rfl rfl (Nat.le_of_ble_eq_true rfl) dX3_init_9 ?_
  refine m_aload_n (pc := 12) a 0 dX3_init_12 rfl rfl ?_
  refine m_bipush (pc := 13) a dX3_init_13 (by decide) ?_
  refine m_newI (pc := 15) a (n := 40) rfl (by decide) w4 (Nat.le_of_ble_eq_true rfl) (Nat.le_of_ble_eq_true rfl) dX3_init_15 (fun q2 => ?_)
  refine m_putF (pc := 17) a 1 hp vc3 w6 w7 (by decide) tyX3 tyX3_ok nmX3 rfl hn rfl (ty := tyX3 1) (tyX3_ok 1 (by decide)) rfl rfl (Nat.le_of_ble_eq_true rfl) dX3_init_17 ?_
  refine m_aload_n (pc := 20) a 0 dX3_init_20 rfl rfl ?_
  refine m_bipush (pc := 21) a dX3_init_21 (by decide) ?_
  refine m_newI (pc := 23) a (n := 40) rfl (by decide) w4 (Nat.le_of_ble_eq_true rfl) (Nat.le_of_ble_eq_true rfl) dX3_init_23 (fun q3 => ?_)
  refine m_putF (pc := 25) a 2 hp vc3 w6 w8 (by decide) tyX3 tyX3_ok nmX3 rfl hn rfl (ty := tyX3 2) (tyX3_ok 2 (by decide)) rfl rfl (Nat.le_of_ble_eq_true rfl) dX3_init_25 ?_
  refine m_aload_n (pc := 28) a 0 dX3_init_28 rfl rfl ?_
  refine m_bipush (pc := 29) a dX3_init_29 (by decide) ?_
  refine m_newI (pc := 31) a (n := 40) rfl (by decide) w4 (Nat.le_of_ble_eq_true rfl) (Nat.le_of_ble_eq_true rfl) dX3_init_31 (fun q4 => ?_)
  refine m_putF (pc := 33) a 3 hp vc3 w6 w9 (by decide) tyX3 tyX3_ok nmX3 rfl hn rfl (ty := tyX3 3) (tyX3_ok 3 (by decide)) rfl rfl (Nat.le_of_ble_eq_true rfl) dX3_init_33 ?_
  refine m_aload_n (pc := 36) a 0 dX3_init_36 rfl rfl ?_
  refine m_bipush (pc := 37) a dX3_init_37 (by decide) ?_
  refine m_newI (pc := 39) a (n := 40) rfl (by decide) w4 (Nat.le_of_ble_eq_true rfl) (Nat.le_of_ble_eq_true rfl) dX3_init_39 (fun q5 => ?_)
  refine m_putF (pc := 41) a 4 hp vc3 w6 w10 (by decide) tyX3 tyX3_ok nmX3 rfl hn rfl (ty := tyX3 4) (tyX3_ok 4 (by decide)) rfl rfl (Nat.le_of_ble_eq_true rfl) dX3_init_41 ?_
  refine m_aload_n (pc := 44) a 0 dX3_init_44 rfl rfl ?_
  refine m_bipush (pc := 45) a dX3_init_45 (by decide) ?_
  refine m_newI (pc := 47) a (n := 12) rfl (by decide) w4 (Nat.le_of_ble_eq_true rfl) (Nat.le_of_ble_eq_true rfl) dX3_init_47 (fun q6 => ?_)
  refine m_putF (pc := 49) a 6 hp vc3 w6 w11 (by decide) tyX3 tyX3_ok nmX3 rfl hn rfl (ty := tyX3 6) (tyX3_ok 6 (by decide)) rfl rfl (Nat.le_of_ble_eq_true rfl) dX3_init_49 ?_
  refine m_aload_n (pc := 52) a 0 dX3_init_52 rfl rfl ?_
  refine m_bipush (pc := 53) a dX3_init_53 (by decide) ?_
  refine m_newI (pc := 55) a (n := 12) rfl (by decide) w4 (Nat.le_of_ble_eq_true rfl) (Nat.le_of_ble_eq_true rfl) dX3_init_55 (fun q7 => ?_)
  refine m_putF (pc := 57) a 7 hp vc3 w6 w12 (by decide) tyX3 tyX3_ok nmX3 rfl hn rfl (ty := tyX3 7) (tyX3_ok 7 (by decide)) rfl rfl (Nat.le_of_ble_eq_true rfl) dX3_init_57 ?_
  refine m_aload_n (pc := 60) a 0 dX3_init_60 rfl rfl ?_
  refine m_bipush (pc := 61) a dX3_init_61 (by decide) ?_
  refine m_newI (pc := 63) a (n := 12) rfl (by decide) w4 (Nat.le_of_ble_eq_true rfl) (Nat.le_of_ble_eq_true rfl) dX3_init_63 (fun q8 => ?_)
  refine m_putF (pc := 65) a 8 hp vc3 w6 w13 (by decide) tyX3 tyX3_ok nmX3 rfl hn rfl (ty := tyX3 8) (tyX3_ok 8 (by decide)) rfl rfl (Nat.le_of_ble_eq_true rfl) dX3_init_65 ?_
  refine m_aload_n (pc := 68) a 0 dX3_init_68 rfl rfl ?_
  refine m_bipush (pc := 69) a dX3_init_69 (by decide) ?_
  refine m_newI (pc := 71) a (n := 60) rfl (by decide) w4 (Nat.le_of_ble_eq_true rfl) (Nat.le_of_ble_eq_true rfl) dX3_init_71 (fun q9 => ?_)
  refine m_putF (pc := 73) a 9 hp vc3 w6 w14 (by decide) tyX3 tyX3_ok nmX3 rfl hn rfl (ty := tyX3 9) (tyX3_ok 9 (by decide)) rfl rfl (Nat.le_of_ble_eq_true rfl) dX3_init_73 ?_
  refine m_aload_n (pc := 76) a 0 dX3_init_76 rfl rfl ?_
  refine m_iconst (pc := 77) a dX3_init_77 ?_
  refine m_newI (pc := 78) a (n := 5) rfl (by decide) w4 (Nat.le_of_ble_eq_true rfl) (Nat.le_of_ble_eq_true rfl) dX3_init_78 (fun q10 => ?_)
  refine m_putF (pc := 80) a 10 hp vc3 w6 w15 (by decide) tyX3 tyX3_ok nmX3 rfl hn rfl (ty := tyX3 10) (tyX3_ok 10 (by decide)) rfl rfl (Nat.le_of_ble_eq_true rfl) dX3_init_80 ?_
  refine m_aload_n (pc := 83) a 0 dX3_init_83 rfl rfl ?_
  refine m_iconst (pc := 84) a dX3_init_84 ?_
  refine m_newI (pc := 85) a (n := 5) rfl (by decide) w4 (Nat.le_of_ble_eq_true rfl) (Nat.le_of_ble_eq_true rfl) dX3_init_85 (fun q11 => ?_)
  refine m_putF (pc := 87) a 11 hp vc3 w6 w16 (by decide) tyX3 tyX3_ok nmX3 rfl hn rfl (ty := tyX3 11) (tyX3_ok 11 (by decide)) rfl rfl (Nat.le_of_ble_eq_true rfl) dX3_init_87 ?_
  refine m_aload_n (pc := 90) a 0 dX3_init_90 rfl rfl ?_
  refine m_iconst (pc := 91) a dX3_init_91 ?_
  refine m_newI (pc := 92) a (n := 4) rfl (by decide) w4 (Nat.le_of_ble_eq_true rfl) (Nat.le_of_ble_eq_true rfl) dX3_init_92 (fun q12 => ?_)
  refine m_putF (pc := 94) a 12 hp vc3 w6 w17 (by decide) tyX3 tyX3_ok nmX3 rfl hn rfl (ty := tyX3 12) (tyX3_ok 12 (by decide)) rfl rfl (Nat.le_of_ble_eq_true rfl) dX3_init_94 ?_
  refine m_iconst (pc := 97) a dX3_init_97 ?_
  refine m_istore_n (pc := 98) a (ls1 := [(1, vI 0), (0, Value.ref h)]) dX3_init_98 rfl (by decide) rfl ?_
  refine m_iload_n (pc := 99) a 0 dX3_init_99 rfl rfl ?_
  refine m_bipush (pc := 100) a dX3_init_100 (by decide) ?_
  refine m_geF (pc := 102) a ⟨by decide, by decide⟩ ⟨by decide, by decide⟩ (by decide) dX3_init_102 (tgt := 125) (by decide) ?_
  refine m_aload_n (pc := 105) a 1 dX3_init_105 rfl rfl ?_
  refine m_get (pc := 106) a 6 hp vc3 w6 w11 (by decide) (v := Value.ref q6) rfl dX3_init_106 ?_
  refine m_iload_n (pc := 109) a 0 dX3_init_109 rfl rfl ?_
  refine m_iload_n (pc := 110) a 0 dX3_init_110 rfl rfl ?_
  refine m_iast (pc := 111) a 5 rfl (by decide) (by decide) dX3_init_111 ?_
  refine m_aload_n (pc := 112) a 1 dX3_init_112 rfl rfl ?_
  refine m_get (pc := 113) a 7 hp vc3 w6 w12 (by decide) (v := Value.ref q7) rfl dX3_init_113 ?_
  refine m_iload_n (pc := 116) a 0 dX3_init_116 rfl rfl ?_
  refine m_iconst (pc := 117) a dX3_init_117 ?_
  refine m_iast (pc := 118) a 6 rfl (by decide) (by decide) dX3_init_118 ?_
  refine m_iinc (pc := 119) a (y := 1) (ls1 := [(1, vI 1), (0, Value.ref h)]) 0 dX3_init_119 rfl (by decide) (by decide) rfl ?_
  refine m_goto (pc := 122) a dX3_init_122 (tgt := 99) (by decide) ?_
  refine m_iload_n (pc := 99) a 0 dX3_init_99 rfl rfl ?_
  refine m_bipush (pc := 100) a dX3_init_100 (by decide) ?_
  refine m_geF (pc := 102) a ⟨by decide, by decide⟩ ⟨by decide, by decide⟩ (by decide) dX3_init_102 (tgt := 125) (by decide) ?_
  refine m_aload_n (pc := 105) a 1 dX3_init_105 rfl rfl ?_
  refine m_get (pc := 106) a 6 hp vc3 w6 w11 (by decide) (v := Value.ref q6) rfl dX3_init_106 ?_
  refine m_iload_n (pc := 109) a 0 dX3_init_109 rfl rfl ?_
  refine m_iload_n (pc := 110) a 0 dX3_init_110 rfl rfl ?_
  refine m_iastT (pc := 111) a (Nat.le_of_ble_eq_true rfl) (by decide) (by decide) (by decide) dX3_init_111 ?_
  refine m_aload_n (pc := 112) a 1 dX3_init_112 rfl rfl ?_
  refine m_get (pc := 113) a 7 hp vc3 w6 w12 (by decide) (v := Value.ref q7) rfl dX3_init_113 ?_
  refine m_iload_n (pc := 116) a 0 dX3_init_116 rfl rfl ?_
  refine m_iconst (pc := 117) a dX3_init_117 ?_
  refine m_iastS (pc := 118) a (Nat.le_of_ble_eq_true rfl) (by decide) (by decide) dX3_init_118 ?_
  refine m_iinc (pc := 119) a (y := 2) (ls1 := [(1, vI 2), (0, Value.ref h)]) 0 dX3_init_119 rfl (by decide) (by decide) rfl ?_
  refine m_goto (pc := 122) a dX3_init_122 (tgt := 99) (by decide) ?_
  refine m_iload_n (pc := 99) a 0 dX3_init_99 rfl rfl ?_
  refine m_bipush (pc := 100) a dX3_init_100 (by decide) ?_
  refine m_geF (pc := 102) a ⟨by decide, by decide⟩ ⟨by decide, by decide⟩ (by decide) dX3_init_102 (tgt := 125) (by decide) ?_
  refine m_aload_n (pc := 105) a 1 dX3_init_105 rfl rfl ?_
  refine m_get (pc := 106) a 6 hp vc3 w6 w11 (by decide) (v := Value.ref q6) rfl dX3_init_106 ?_
  refine m_iload_n (pc := 109) a 0 dX3_init_109 rfl rfl ?_
  refine m_iload_n (pc := 110) a 0 dX3_init_110 rfl rfl ?_
  refine m_iastT (pc := 111) a (Nat.le_of_ble_eq_true rfl) (by decide) (by decide) (by decide) dX3_init_111 ?_
  refine m_aload_n (pc := 112) a 1 dX3_init_112 rfl rfl ?_
  refine m_get (pc := 113) a 7 hp vc3 w6 w12 (by decide) (v := Value.ref q7) rfl dX3_init_113 ?_
  refine m_iload_n (pc := 116) a 0 dX3_init_116 rfl rfl ?_
  refine m_iconst (pc := 117) a dX3_init_117 ?_
  refine m_iastS (pc := 118) a (Nat.le_of_ble_eq_true rfl) (by decide) (by decide) dX3_init_118 ?_
  refine m_iinc (pc := 119) a (y := 3) (ls1 := [(1, vI 3), (0, Value.ref h)]) 0 dX3_init_119 rfl (by decide) (by decide) rfl ?_
  refine m_goto (pc := 122) a dX3_init_122 (tgt := 99) (by decide) ?_
  refine m_iload_n (pc := 99) a 0 dX3_init_99 rfl rfl ?_
  refine m_bipush (pc := 100) a dX3_init_100 (by decide) ?_
  refine m_geF (pc := 102) a ⟨by decide, by decide⟩ ⟨by decide, by decide⟩ (by decide) dX3_init_102 (tgt := 125) (by decide) ?_
  refine m_aload_n (pc := 105) a 1 dX3_init_105 rfl rfl ?_
  refine m_get (pc := 106) a 6 hp vc3 w6 w11 (by decide) (v := Value.ref q6) rfl dX3_init_106 ?_
  refine m_iload_n (pc := 109) a 0 dX3_init_109 rfl rfl ?_
  refine m_iload_n (pc := 110) a 0 dX3_init_110 rfl rfl ?_
  refine m_iastT (pc := 111) a (Nat.le_of_ble_eq_true rfl) (by decide) (by decide) (by decide) dX3_init_111 ?_
  refine m_aload_n (pc := 112) a 1 dX3_init_112 rfl rfl ?_
  refine m_get (pc := 113) a 7 hp vc3 w6 w12 (by decide) (v := Value.ref q7) rfl dX3_init_113 ?_
  refine m_iload_n (pc := 116) a 0 dX3_init_116 rfl rfl ?_
  refine m_iconst (pc := 117) a dX3_init_117 ?_
  refine m_iastS (pc := 118) a (Nat.le_of_ble_eq_true rfl) (by decide) (by decide) dX3_init_118 ?_
  refine m_iinc (pc := 119) a (y := 4) (ls1 := [(1, vI 4), (0, Value.ref h)]) 0 dX3_init_119 rfl (by decide) (by decide) rfl ?_
  refine m_goto (pc := 122) a dX3_init_122 (tgt := 99) (by decide) ?_
  refine m_iload_n (pc := 99) a 0 dX3_init_99 rfl rfl ?_
  refine m_bipush (pc := 100) a dX3_init_100 (by decide) ?_
  refine m_geF (pc := 102) a ⟨by decide, by decide⟩ ⟨by decide, by decide⟩ (by decide) dX3_init_102 (tgt := 125) (by decide) ?_
  refine m_aload_n (pc := 105) a 1 dX3_init_105 rfl rfl ?_
  refine m_get (pc := 106) a 6 hp vc3 w6 w11 (by decide) (v := Value.ref q6) rfl dX3_init_106 ?_
  refine m_iload_n (pc := 109) a 0 dX3_init_109 rfl rfl ?_
  refine m_iload_n (pc := 110) a 0 dX3_init_110 rfl rfl ?_
  refine m_iastT (pc := 111) a (Nat.le_of_ble_eq_true rfl) (by decide) (by decide) (by decide) dX3_init_111 ?_
  refine m_aload_n (pc := 112) a 1 dX3_init_112 rfl rfl ?_
  refine m_get (pc := 113) a 7 hp vc3 w6 w12 (by decide) (v := Value.ref q7) rfl dX3_init_113 ?_
  refine m_iload_n (pc := 116) a 0 dX3_init_116 rfl rfl ?_
  refine m_iconst (pc := 117) a dX3_init_117 ?_
  refine m_iastS (pc := 118) a (Nat.le_of_ble_eq_true rfl) (by decide) (by decide) dX3_init_118 ?_
  refine m_iinc (pc := 119) a (y := 5) (ls1 := [(1, vI 5), (0, Value.ref h)]) 0 dX3_init_119 rfl (by decide) (by decide) rfl ?_
  refine m_goto (pc := 122) a dX3_init_122 (tgt := 99) (by decide) ?_
  refine m_iload_n (pc := 99) a 0 dX3_init_99 rfl rfl ?_
  refine m_bipush (pc := 100) a dX3_init_100 (by decide) ?_
  refine m_geF (pc := 102) a ⟨by decide, by decide⟩ ⟨by decide, by decide⟩ (by decide) dX3_init_102 (tgt := 125) (by decide) ?_
  refine m_aload_n (pc := 105) a 1 dX3_init_105 rfl rfl ?_
  refine m_get (pc := 106) a 6 hp vc3 w6 w11 (by decide) (v := Value.ref q6) rfl dX3_init_106 ?_
  refine m_iload_n (pc := 109) a 0 dX3_init_109 rfl rfl ?_
  refine m_iload_n (pc := 110) a 0 dX3_init_110 rfl rfl ?_
  refine m_iastT (pc := 111) a (Nat.le_of_ble_eq_true rfl) (by decide) (by decide) (by decide) dX3_init_111 ?_
  refine m_aload_n (pc := 112) a 1 dX3_init_112 rfl rfl ?_
  refine m_get (pc := 113) a 7 hp vc3 w6 w12 (by decide) (v := Value.ref q7) rfl dX3_init_113 ?_
  refine m_iload_n (pc := 116) a 0 dX3_init_116 rfl rfl ?_
  refine m_iconst (pc := 117) a dX3_init_117 ?_
  refine m_iastS (pc := 118) a (Nat.le_of_ble_eq_true rfl) (by decide) (by decide) dX3_init_118 ?_
  refine m_iinc (pc := 119) a (y := 6) (ls1 := [(1, vI 6), (0, Value.ref h)]) 0 dX3_init_119 rfl (by decide) (by decide) rfl ?_
  refine m_goto (pc := 122) a dX3_init_122 (tgt := 99) (by decide) ?_
  refine m_iload_n (pc := 99) a 0 dX3_init_99 rfl rfl ?_
  refine m_bipush (pc := 100) a dX3_init_100 (by decide) ?_
  refine m_geF (pc := 102) a ⟨by decide, by decide⟩ ⟨by decide, by decide⟩ (by decide) dX3_init_102 (tgt := 125) (by decide) ?_
  refine m_aload_n (pc := 105) a 1 dX3_init_105 rfl rfl ?_
  refine m_get (pc := 106) a 6 hp vc3 w6 w11 (by decide) (v := Value.ref q6) rfl dX3_init_106 ?_
  refine m_iload_n (pc := 109) a 0 dX3_init_109 rfl rfl ?_
  refine m_iload_n (pc := 110) a 0 dX3_init_110 rfl rfl ?_
  refine m_iastT (pc := 111) a (Nat.le_of_ble_eq_true rfl) (by decide) (by decide) (by decide) dX3_init_111 ?_
  refine m_aload_n (pc := 112) a 1 dX3_init_112 rfl rfl ?_
  refine m_get (pc := 113) a 7 hp vc3 w6 w12 (by decide) (v := Value.ref q7) rfl dX3_init_113 ?_
  refine m_iload_n (pc := 116) a 0 dX3_init_116 rfl rfl ?_
  refine m_iconst (pc := 117) a dX3_init_117 ?_
  refine m_iastS (pc := 118) a (Nat.le_of_ble_eq_true rfl) (by decide) (by decide) dX3_init_118 ?_
  refine m_iinc (pc := 119) a (y := 7) (ls1 := [(1, vI 7), (0, Value.ref h)]) 0 dX3_init_119 rfl (by decide) (by decide) rfl ?_
  refine m_goto (pc := 122) a dX3_init_122 (tgt := 99) (by decide) ?_
  refine m_iload_n (pc := 99) a 0 dX3_init_99 rfl rfl ?_
  refine m_bipush (pc := 100) a dX3_init_100 (by decide) ?_
  refine m_geF (pc := 102) a ⟨by decide, by decide⟩ ⟨by decide, by decide⟩ (by decide) dX3_init_102 (tgt := 125) (by decide) ?_
  refine m_aload_n (pc := 105) a 1 dX3_init_105 rfl rfl ?_
  refine m_get (pc := 106) a 6 hp vc3 w6 w11 (by decide) (v := Value.ref q6) rfl dX3_init_106 ?_
  refine m_iload_n (pc := 109) a 0 dX3_init_109 rfl rfl ?_
  refine m_iload_n (pc := 110) a 0 dX3_init_110 rfl rfl ?_
  refine m_iastT (pc := 111) a (Nat.le_of_ble_eq_true rfl) (by decide) (by decide) (by decide) dX3_init_111 ?_
  refine m_aload_n (pc := 112) a 1 dX3_init_112 rfl rfl ?_
  refine m_get (pc := 113) a 7 hp vc3 w6 w12 (by decide) (v := Value.ref q7) rfl dX3_init_113 ?_
  refine m_iload_n (pc := 116) a 0 dX3_init_116 rfl rfl ?_
  refine m_iconst (pc := 117) a dX3_init_117 ?_
  refine m_iastS (pc := 118) a (Nat.le_of_ble_eq_true rfl) (by decide) (by decide) dX3_init_118 ?_
  refine m_iinc (pc := 119) a (y := 8) (ls1 := [(1, vI 8), (0, Value.ref h)]) 0 dX3_init_119 rfl (by decide) (by decide) rfl ?_
  refine m_goto (pc := 122) a dX3_init_122 (tgt := 99) (by decide) ?_
  refine m_iload_n (pc := 99) a 0 dX3_init_99 rfl rfl ?_
  refine m_bipush (pc := 100) a dX3_init_100 (by decide) ?_
  refine m_geF (pc := 102) a ⟨by decide, by decide⟩ ⟨by decide, by decide⟩ (by decide) dX3_init_102 (tgt := 125) (by decide) ?_
  refine m_aload_n (pc := 105) a 1 dX3_init_105 rfl rfl ?_
  refine m_get (pc := 106) a 6 hp vc3 w6 w11 (by decide) (v := Value.ref q6) rfl dX3_init_106 ?_
  refine m_iload_n (pc := 109) a 0 dX3_init_109 rfl rfl ?_
  refine m_iload_n (pc := 110) a 0 dX3_init_110 rfl rfl ?_
  refine m_iastT (pc := 111) a (Nat.le_of_ble_eq_true rfl) (by decide) (by decide) (by decide) dX3_init_111 ?_
  refine m_aload_n (pc := 112) a 1 dX3_init_112 rfl rfl ?_
  refine m_get (pc := 113) a 7 hp vc3 w6 w12 (by decide) (v := Value.ref q7) rfl dX3_init_113 ?_
  refine m_iload_n (pc := 116) a 0 dX3_init_116 rfl rfl ?_
  refine m_iconst (pc := 117) a dX3_init_117 ?_
  refine m_iastS (pc := 118) a (Nat.le_of_ble_eq_true rfl) (by decide) (by decide) dX3_init_118 ?_
  refine m_iinc (pc := 119) a (y := 9) (ls1 := [(1, vI 9), (0, Value.ref h)]) 0 dX3_init_119 rfl (by decide) (by decide) rfl ?_
  refine m_goto (pc := 122) a dX3_init_122 (tgt := 99) (by decide) ?_
  refine m_iload_n (pc := 99) a 0 dX3_init_99 rfl rfl ?_
  refine m_bipush (pc := 100) a dX3_init_100 (by decide) ?_
  refine m_geF (pc := 102) a ⟨by decide, by decide⟩ ⟨by decide, by decide⟩ (by decide) dX3_init_102 (tgt := 125) (by decide) ?_
  refine m_aload_n (pc := 105) a 1 dX3_init_105 rfl rfl ?_
  refine m_get (pc := 106) a 6 hp vc3 w6 w11 (by decide) (v := Value.ref q6) rfl dX3_init_106 ?_
  refine m_iload_n (pc := 109) a 0 dX3_init_109 rfl rfl ?_
  refine m_iload_n (pc := 110) a 0 dX3_init_110 rfl rfl ?_
  refine m_iastT (pc := 111) a (Nat.le_of_ble_eq_true rfl) (by decide) (by decide) (by decide) dX3_init_111 ?_
  refine m_aload_n (pc := 112) a 1 dX3_init_112 rfl rfl ?_
  refine m_get (pc := 113) a 7 hp vc3 w6 w12 (by decide) (v := Value.ref q7) rfl dX3_init_113 ?_
  refine m_iload_n (pc := 116) a 0 dX3_init_116 rfl rfl ?_
  refine m_iconst (pc := 117) a dX3_init_117 ?_
  refine m_iastS (pc := 118) a (Nat.le_of_ble_eq_true rfl) (by decide) (by decide) dX3_init_118 ?_
  refine m_iinc (pc := 119) a (y := 10) (ls1 := [(1, vI 10), (0, Value.ref h)]) 0 dX3_init_119 rfl (by decide) (by decide) rfl ?_
  refine m_goto (pc := 122) a dX3_init_122 (tgt := 99) (by decide) ?_
  refine m_iload_n (pc := 99) a 0 dX3_init_99 rfl rfl ?_
  refine m_bipush (pc := 100) a dX3_init_100 (by decide) ?_
  refine m_geF (pc := 102) a ⟨by decide, by decide⟩ ⟨by decide, by decide⟩ (by decide) dX3_init_102 (tgt := 125) (by decide) ?_
  refine m_aload_n (pc := 105) a 1 dX3_init_105 rfl rfl ?_
  refine m_get (pc := 106) a 6 hp vc3 w6 w11 (by decide) (v := Value.ref q6) rfl dX3_init_106 ?_
  refine m_iload_n (pc := 109) a 0 dX3_init_109 rfl rfl ?_
  refine m_iload_n (pc := 110) a 0 dX3_init_110 rfl rfl ?_
  refine m_iastT (pc := 111) a (Nat.le_of_ble_eq_true rfl) (by decide) (by decide) (by decide) dX3_init_111 ?_
  refine m_aload_n (pc := 112) a 1 dX3_init_112 rfl rfl ?_
  refine m_get (pc := 113) a 7 hp vc3 w6 w12 (by decide) (v := Value.ref q7) rfl dX3_init_113 ?_
  refine m_iload_n (pc := 116) a 0 dX3_init_116 rfl rfl ?_
  refine m_iconst (pc := 117) a dX3_init_117 ?_
  refine m_iastS (pc := 118) a (Nat.le_of_ble_eq_true rfl) (by decide) (by decide) dX3_init_118 ?_
  refine m_iinc (pc := 119) a (y := 11) (ls1 := [(1, vI 11), (0, Value.ref h)]) 0 dX3_init_119 rfl (by decide) (by decide) rfl ?_
  refine m_goto (pc := 122) a dX3_init_122 (tgt := 99) (by decide) ?_
  refine m_iload_n (pc := 99) a 0 dX3_init_99 rfl rfl ?_
  refine m_bipush (pc := 100) a dX3_init_100 (by decide) ?_
  refine m_geF (pc := 102) a ⟨by decide, by decide⟩ ⟨by decide, by decide⟩ (by decide) dX3_init_102 (tgt := 125) (by decide) ?_
  refine m_aload_n (pc := 105) a 1 dX3_init_105 rfl rfl ?_
  refine m_get (pc := 106) a 6 hp vc3 w6 w11 (by decide) (v := Value.ref q6) rfl dX3_init_106 ?_
  refine m_iload_n (pc := 109) a 0 dX3_init_109 rfl rfl ?_
  refine m_iload_n (pc := 110) a 0 dX3_init_110 rfl rfl ?_
  refine m_iastT (pc := 111) a (Nat.le_of_ble_eq_true rfl) (by decide) (by decide) (by decide) dX3_init_111 ?_
  refine m_aload_n (pc := 112) a 1 dX3_init_112 rfl rfl ?_
  refine m_get (pc := 113) a 7 hp vc3 w6 w12 (by decide) (v := Value.ref q7) rfl dX3_init_113 ?_
  refine m_iload_n (pc := 116) a 0 dX3_init_116 rfl rfl ?_
  refine m_iconst (pc := 117) a dX3_init_117 ?_
  refine m_iastS (pc := 118) a (Nat.le_of_ble_eq_true rfl) (by decide) (by decide) dX3_init_118 ?_
  refine m_iinc (pc := 119) a (y := 12) (ls1 := [(1, vI 12), (0, Value.ref h)]) 0 dX3_init_119 rfl (by decide) (by decide) rfl ?_
  refine m_goto (pc := 122) a dX3_init_122 (tgt := 99) (by decide) ?_
  refine m_iload_n (pc := 99) a 0 dX3_init_99 rfl rfl ?_
  refine m_bipush (pc := 100) a dX3_init_100 (by decide) ?_
  refine m_geT (pc := 102) a ⟨by decide, by decide⟩ ⟨by decide, by decide⟩ (by decide) dX3_init_102 (tgt := 125) (by decide) ?_
  refine m_aload_n (pc := 125) a 1 dX3_init_125 rfl rfl ?_
  refine m_get (pc := 126) a 11 hp vc3 w6 w16 (by decide) (v := Value.ref q11) rfl dX3_init_126 ?_
  refine m_iconst (pc := 129) a dX3_init_129 ?_
  refine m_bipush (pc := 130) a dX3_init_130 (by decide) ?_
  refine m_iast (pc := 132) a 10 rfl (by decide) (by decide) dX3_init_132 ?_
  refine m_aload_n (pc := 133) a 1 dX3_init_133 rfl rfl ?_
  refine m_get (pc := 134) a 11 hp vc3 w6 w16 (by decide) (v := Value.ref q11) rfl dX3_init_134 ?_
  refine m_iconst (pc := 137) a dX3_init_137 ?_
  refine m_bipush (pc := 138) a dX3_init_138 (by decide) ?_
  refine m_iastS (pc := 140) a (Nat.le_of_ble_eq_true rfl) (by decide) (by decide) dX3_init_140 ?_
  refine m_aload_n (pc := 141) a 1 dX3_init_141 rfl rfl ?_
  refine m_get (pc := 142) a 11 hp vc3 w6 w16 (by decide) (v := Value.ref q11) rfl dX3_init_142 ?_
  refine m_iconst (pc := 145) a dX3_init_145 ?_
  refine m_iconst (pc := 146) a dX3_init_146 ?_
  refine m_iastS (pc := 147) a (Nat.le_of_ble_eq_true rfl) (by decide) (by decide) dX3_init_147 ?_
  refine m_aload_n (pc := 148) a 1 dX3_init_148 rfl rfl ?_
  refine m_get (pc := 149) a 12 hp vc3 w6 w17 (by decide) (v := Value.ref q12) rfl dX3_init_149 ?_
  refine m_iconst (pc := 152) a dX3_init_152 ?_
  refine m_iconst (pc := 153) a dX3_init_153 ?_
  refine m_iast (pc := 154) a 11 rfl (by decide) (by decide) dX3_init_154 ?_
  refine m_aload_n (pc := 155) a 1 dX3_init_155 rfl rfl ?_
  refine m_get (pc := 156) a 12 hp vc3 w6 w17 (by decide) (v := Value.ref q12) rfl dX3_init_156 ?_
  refine m_iconst (pc := 159) a dX3_init_159 ?_
  refine m_iconst (pc := 160) a dX3_init_160 ?_
  refine m_iastS (pc := 161) a (Nat.le_of_ble_eq_true rfl) (by decide) (by decide) dX3_init_161 ?_
  refine m_aload_n (pc := 162) a 1 dX3_init_162 rfl rfl ?_
  refine m_get (pc := 163) a 12 hp vc3 w6 w17 (by decide) (v := Value.ref q12) rfl dX3_init_163 ?_
  refine m_iconst (pc := 166) a dX3_init_166 ?_
  refine m_bipush (pc := 167) a dX3_init_167 (by decide) ?_
  refine m_iastS (pc := 169) a (Nat.le_of_ble_eq_true rfl) (by decide) (by decide) dX3_init_169 ?_
  refine m_aload_n (pc := 170) a 1 dX3_init_170 rfl rfl ?_
  refine m_get (pc := 171) a 12 hp vc3 w6 w17 (by decide) (v := Value.ref q12) rfl dX3_init_171 ?_
  refine m_iconst (pc := 174) a dX3_init_174 ?_
  refine m_iconst (pc := 175) a dX3_init_175 ?_
  refine m_iastS (pc := 176) a (Nat.le_of_ble_eq_true rfl) (by decide) (by decide) dX3_init_176 ?_
  exact m_ret (pc := 177) a (fun k => ([h, q1, q2, q3, q4, q5, q6, q7, q8, q9, q10, q11, q12] : List Nat).getD k 0) hr (Nat.le_of_ble_eq_true rfl) (Nat.le_of_ble_eq_true rfl) rfl dX3_init_177

set_option maxRecDepth 100000 in
set_option maxHeartbeats 4000000 in
theorem c_X1_init {l : Launch} {D : va_G} {X : XI} (hl0 : l.stackTraces = false) {ws : va_W} {pp h : Nat} (h0 : ws[pp]? = some (h, .inr (1, [vI 0, Value.null, Value.null, vI 0, vI 0, Value.null, Value.null, Value.null, Value.null, vI 0, vI 0, vI 0]))) (sz : Nat) : Met l yX1_init (WW (.code yX1_init cX1_init 1 none)) { frames := 2, cells := 32, slots := 1698, locals := 32 } (va_Pc [.ref h] (WC D X ws sz)) (QC D (va_A ws sz) (fun u => OW ws pp h 1 (legF (uu h u) 0) (legA X (uu h u) 0))) 32 1698 (va_A ws sz) := by
  have hp : pp < ws.length := (List.getElem?_eq_some_iff.mp h0).1
  refine m_start (own := RX1) (cc := cX1_init) (maxL := 1) (by decide) rfl rfl rfl (Nat.le_of_ble_eq_true rfl) ?_
  intro p e s m below meth c a hr hn hsz
  have hts := a.1.2.2.2.2
  have w1 := hts (Cond.methodLink RX1 3 objectInit) (List.mem_cons_of_mem _ (GL_2 _ (by decide +kernel)))
  have w2 := hts (Cond.instanceMethod objectInit) (List.mem_cons_of_mem _ (GL_1 _ (by decide +kernel)))
  have w3 := hts (Cond.code objectInit ⟨#[0xb1]⟩ 1 none) (List.mem_cons_of_mem _ (GL_1 _ (by decide +kernel)))
  have w4 := hts (Cond.arrayClass .boolean) (List.mem_cons_of_mem _ (GL_2 _ (by decide +kernel)))
  have w5 := hts (Cond.fieldLink RX1 9 "SightLegend$Legend" "shown" "[Z") (List.mem_cons_of_mem _ (GL_2 _ (by decide +kernel)))
  have w6 : ∀ w ∈ u_ws RX1 TX1 12, w ∈ WW (.code yX1_init cX1_init 1 none) := fun w h => List.mem_cons_of_mem _ (inlX1 w h)
  have w7 := hts (Cond.fieldLink RX1 15 "SightLegend$Legend" "inSight" "[Z") (List.mem_cons_of_mem _ (GL_2 _ (by decide +kernel)))
  have w8 : ∀ w ∈ u_ws RX4 TX4 6, w ∈ WW (.code yX1_init cX1_init 1 none) := fun w h => List.mem_cons_of_mem _ (inlX4 w h)
  have w9 := hts (Cond.classLink RX1 18 RX4) (List.mem_cons_of_mem _ (GL_3 _ (by decide +kernel)))
  have w10 := hts (Cond.instantiable RX4 6) (List.mem_cons_of_mem _ (GL_3 _ (by decide +kernel)))
  have w11 := hts (Cond.initialized RX4) (List.mem_cons_of_mem _ (GL_3 _ (by decide +kernel)))
  have w12 := hts (Cond.instanceMethod yX4_init) (List.mem_cons_of_mem _ (GL_3 _ (by decide +kernel)))
  have w13 := hts (Cond.fieldLink RX1 21 "SightLegend$Legend" "ranges" "LSightLegend$Ranges;") (List.mem_cons_of_mem _ (GL_3 _ (by decide +kernel)))
  have w14 : ∀ w ∈ u_ws RX2 TX2 14, w ∈ WW (.code yX1_init cX1_init 1 none) := fun w h => List.mem_cons_of_mem _ (inlX2 w h)
  have w15 := hts (Cond.classLink RX1 25 RX2) (List.mem_cons_of_mem _ (GL_3 _ (by decide +kernel)))
  have w16 := hts (Cond.instantiable RX2 14) (List.mem_cons_of_mem _ (GL_3 _ (by decide +kernel)))
  have w17 := hts (Cond.initialized RX2) (List.mem_cons_of_mem _ (GL_3 _ (by decide +kernel)))
  have w18 := hts (Cond.instanceMethod yX2_init) (List.mem_cons_of_mem _ (GL_3 _ (by decide +kernel)))
  have w19 := hts (Cond.fieldLink RX1 28 "SightLegend$Legend" "now" "LSightLegend$Lines;") (List.mem_cons_of_mem _ (GL_3 _ (by decide +kernel)))
  have w20 := hts (Cond.fieldLink RX1 32 "SightLegend$Legend" "before" "LSightLegend$Lines;") (List.mem_cons_of_mem _ (GL_3 _ (by decide +kernel)))
  have w21 : ∀ w ∈ u_ws RX0 TX0 6, w ∈ WW (.code yX1_init cX1_init 1 none) := fun w h => List.mem_cons_of_mem _ (inlX0 w h)
  have w22 := hts (Cond.classLink RX1 35 RX0) (List.mem_cons_of_mem _ (GL_3 _ (by decide +kernel)))
  have w23 := hts (Cond.instantiable RX0 6) (List.mem_cons_of_mem _ (GL_3 _ (by decide +kernel)))
  have w24 := hts (Cond.initialized RX0) (List.mem_cons_of_mem _ (GL_3 _ (by decide +kernel)))
  have w25 := hts (Cond.instanceMethod yX0_init) (List.mem_cons_of_mem _ (GL_4 _ (by decide +kernel)))
  have w26 := hts (Cond.fieldLink RX1 38 "SightLegend$Legend" "box" "LSightLegend$Box;") (List.mem_cons_of_mem _ (GL_3 _ (by decide +kernel)))
  refine m_eq (ws1 := OW ws pp h 1 [vI 0, Value.null, Value.null, vI 0, vI 0, Value.null, Value.null, Value.null, Value.null, vI 0, vI 0, vI 0] []) (ow_init h0) ?_
  refine m_aload_n (pc := 0) a 0 dX1_init_0 rfl rfl ?_
  refine m_obj (pc := 1) a w1 w2 w3 (Nat.le_of_ble_eq_true rfl) (Nat.le_of_ble_eq_true rfl) dX1_init_1 ?_
  refine m_aload_n (pc := 4) a 0 dX1_init_4 rfl rfl ?_
  refine m_bipush (pc := 5) a dX1_init_5 (by decide) ?_
  refine m_newZ (pc := 7) a (n := 40) rfl (by decide) w4 (Nat.le_of_ble_eq_true rfl) (Nat.le_of_ble_eq_true rfl) dX1_init_7 (fun q1 => ?_)
  refine m_putF (pc := 9) a 1 hp vc1 w6 w5 (by decide) tyX1 tyX1_ok nmX1 rfl hn rfl (ty := tyX1 1) (tyX1_ok 1 (by decide)) rfl rfl (Nat.le_of_ble_eq_true rfl) dX1_init_9 ?_
  refine m_aload_n (pc := 12) a 0 dX1_init_12 rfl rfl ?_
  refine m_bipush (pc := 13) a dX1_init_13 (by decide) ?_
  refine m_newZ (pc := 15) a (n := 40) rfl (by decide) w4 (Nat.le_of_ble_eq_true rfl) (Nat.le_of_ble_eq_true rfl) dX1_init_15 (fun q2 => ?_)
  refine m_putF (pc := 17) a 2 hp vc1 w6 w7 (by decide) tyX1 tyX1_ok nmX1 rfl hn rfl (ty := tyX1 2) (tyX1_ok 2 (by decide)) rfl rfl (Nat.le_of_ble_eq_true rfl) dX1_init_17 ?_
  refine m_aload_n (pc := 20) a 0 dX1_init_20 rfl rfl ?_
  refine m_new (pc := 21) a w8 tyX4 tyX4_ok w9 w10 w11 vc4 (gs := [Value.null, Value.null, Value.null, Value.null, Value.null, Value.null]) (by decide +kernel) (Nat.le_of_ble_eq_true rfl) (Nat.le_of_ble_eq_true rfl) dX1_init_21 (fun q3 => ?_)
  refine m_dup (pc := 24) a rfl dX1_init_24 ?_
  refine m_callN (pc := 25) a (fun sz => c_X4_init hl0 (h := q3) ow_last sz) ⟨va_cnB 0 hts (gl_W (GL_3 _ (by decide +kernel))) rfl rfl rfl a.2.2.2.2.2.2.2.1 w11 (by decide +kernel) ⟨Nat.le_of_ble_eq_true rfl, Nat.le_of_ble_eq_true rfl⟩, rfl, w12⟩ (Nat.le_of_ble_eq_true rfl) ⟨Nat.le_of_ble_eq_true rfl, Nat.le_of_ble_eq_true rfl⟩ dX1_init_25 (fun u4 => ?_)
  refine m_putF (pc := 28) a 5 hp vc1 w6 w13 (by decide) tyX1 tyX1_ok nmX1 rfl hn rfl (ty := tyX1 5) (tyX1_ok 5 (by decide)) rfl rfl (Nat.le_of_ble_eq_true rfl) dX1_init_28 ?_
  refine m_aload_n (pc := 31) a 0 dX1_init_31 rfl rfl ?_
  refine m_new (pc := 32) a w14 tyX2 tyX2_ok w15 w16 w17 vc2 (gs := [vI 0, Value.null, Value.null, Value.null, Value.null, Value.null, Value.null, Value.null, Value.null, vI 0, vI 0, Value.null, vI 0, Value.null]) (by decide +kernel) (Nat.le_of_ble_eq_true rfl) (Nat.le_of_ble_eq_true rfl) dX1_init_32 (fun q5 => ?_)
  refine m_dup (pc := 35) a rfl dX1_init_35 ?_
  refine m_callN (pc := 36) a (fun sz => c_X2_init hl0 (h := q5) ow_last sz) ⟨va_cnB 0 hts (gl_W (GL_3 _ (by decide +kernel))) rfl rfl rfl a.2.2.2.2.2.2.2.2.1 w17 (by decide +kernel) ⟨Nat.le_of_ble_eq_true rfl, Nat.le_of_ble_eq_true rfl⟩, rfl, w18⟩ (Nat.le_of_ble_eq_true rfl) ⟨Nat.le_of_ble_eq_true rfl, Nat.le_of_ble_eq_true rfl⟩ dX1_init_36 (fun u6 => ?_)
  refine m_putF (pc := 39) a 6 hp vc1 w6 w19 (by decide) tyX1 tyX1_ok nmX1 rfl hn rfl (ty := tyX1 6) (tyX1_ok 6 (by decide)) rfl rfl (Nat.le_of_ble_eq_true rfl) dX1_init_39 ?_
  refine m_aload_n (pc := 42) a 0 dX1_init_42 rfl rfl ?_
  refine m_new (pc := 43) a w14 tyX2 tyX2_ok w15 w16 w17 vc2 (gs := [vI 0, Value.null, Value.null, Value.null, Value.null, Value.null, Value.null, Value.null, Value.null, vI 0, vI 0, Value.null, vI 0, Value.null]) (by decide +kernel) (Nat.le_of_ble_eq_true rfl) (Nat.le_of_ble_eq_true rfl) dX1_init_43 (fun q7 => ?_)
  refine m_dup (pc := 46) a rfl dX1_init_46 ?_
  refine m_callN (pc := 47) a (fun sz => c_X2_init hl0 (h := q7) ow_last sz) ⟨va_cnB 0 hts (gl_W (GL_3 _ (by decide +kernel))) rfl rfl rfl a.2.2.2.2.2.2.2.2.1 w17 (by decide +kernel) ⟨Nat.le_of_ble_eq_true rfl, Nat.le_of_ble_eq_true rfl⟩, rfl, w18⟩ (Nat.le_of_ble_eq_true rfl) ⟨Nat.le_of_ble_eq_true rfl, Nat.le_of_ble_eq_true rfl⟩ dX1_init_47 (fun u8 => ?_)
  refine m_putF (pc := 50) a 7 hp vc1 w6 w20 (by decide) tyX1 tyX1_ok nmX1 rfl hn rfl (ty := tyX1 7) (tyX1_ok 7 (by decide)) rfl rfl (Nat.le_of_ble_eq_true rfl) dX1_init_50 ?_
  refine m_aload_n (pc := 53) a 0 dX1_init_53 rfl rfl ?_
  refine m_new (pc := 54) a w21 tyX0 tyX0_ok w22 w23 w24 vc0 (gs := [vI 0, vI 0, vI 0, vI 0, vI 0, vI 0]) (by decide +kernel) (Nat.le_of_ble_eq_true rfl) (Nat.le_of_ble_eq_true rfl) dX1_init_54 (fun q9 => ?_)
  refine m_dup (pc := 57) a rfl dX1_init_57 ?_
  refine m_callN (pc := 58) a (fun sz => c_X0_init hl0 (h := q9) ow_last sz) ⟨va_cnB 0 hts (gl_W (GL_4 _ (by decide +kernel))) rfl rfl rfl a.2.2.2.2.2.2.2.2.2 w24 (by decide +kernel) ⟨Nat.le_of_ble_eq_true rfl, Nat.le_of_ble_eq_true rfl⟩, rfl, w25⟩ (Nat.le_of_ble_eq_true rfl) ⟨Nat.le_of_ble_eq_true rfl, Nat.le_of_ble_eq_true rfl⟩ dX1_init_58 (fun u10 => ?_)
  refine m_putF (pc := 61) a 8 hp vc1 w6 w26 (by decide) tyX1 tyX1_ok nmX1 rfl hn rfl (ty := tyX1 8) (tyX1_ok 8 (by decide)) rfl rfl (Nat.le_of_ble_eq_true rfl) dX1_init_61 ?_
  exact m_ret (pc := 64) a (fun k => ([h, q1, q2, q3, (u4 1), (u4 2), (u4 3), (u4 4), (u4 5), (u4 6), q5, (u6 1), (u6 2), (u6 3), (u6 4), (u6 5), (u6 6), (u6 7), (u6 8), (u6 9), (u6 10), q7, (u8 1), (u8 2), (u8 3), (u8 4), (u8 5), (u8 6), (u8 7), (u8 8), (u8 9), (u8 10), q9] : List Nat).getD k 0) hr (Nat.le_of_ble_eq_true rfl) (Nat.le_of_ble_eq_true rfl) rfl dX1_init_64

set_option maxRecDepth 100000 in
set_option maxHeartbeats 4000000 in
theorem c_X5_init {l : Launch} {D : va_G} {X : XI} (hl0 : l.stackTraces = false) {ws : va_W} {pp h : Nat} (h0 : ws[pp]? = some (h, .inr (5, [Value.null, vI 0, Value.null, vI 0, vI 0]))) (sz : Nat) : Met l yX5_init (WW (.code yX5_init cX5_init 1 none)) { frames := 2, cells := 14, slots := 483, locals := 33 } (va_Pc [.ref h] (WC D X ws sz)) (QC D (va_A ws sz) (fun u => OW ws pp h 5 (txtF (uu h u) 0) (txtA X (uu h u) 0))) 14 483 (va_A ws sz) := by
  have hp : pp < ws.length := (List.getElem?_eq_some_iff.mp h0).1
  refine m_start (own := RX5) (cc := cX5_init) (maxL := 1) (by decide) rfl rfl rfl (Nat.le_of_ble_eq_true rfl) ?_
  intro p e s m below meth c a hr hn hsz
  have hts := a.1.2.2.2.2
  have w1 := hts (Cond.methodLink RX5 3 objectInit) (List.mem_cons_of_mem _ (GL_4 _ (by decide +kernel)))
  have w2 := hts (Cond.instanceMethod objectInit) (List.mem_cons_of_mem _ (GL_1 _ (by decide +kernel)))
  have w3 := hts (Cond.code objectInit ⟨#[0xb1]⟩ 1 none) (List.mem_cons_of_mem _ (GL_1 _ (by decide +kernel)))
  have w4 := hts (Cond.arrayClass .int) (List.mem_cons_of_mem _ (GL_1 _ (by decide +kernel)))
  have w5 := hts (Cond.fieldLink RX5 9 "SightLegend$SignText" "bytes" "[I") (List.mem_cons_of_mem _ (GL_4 _ (by decide +kernel)))
  have w6 : ∀ w ∈ u_ws RX5 TX5 5, w ∈ WW (.code yX5_init cX5_init 1 none) := fun w h => List.mem_cons_of_mem _ (inlX5 w h)
  have w7 : ∀ w ∈ u_ws RX3 TX3 13, w ∈ WW (.code yX5_init cX5_init 1 none) := fun w h => List.mem_cons_of_mem _ (inlX3 w h)
  have w8 := hts (Cond.classLink RX5 15 RX3) (List.mem_cons_of_mem _ (GL_4 _ (by decide +kernel)))
  have w9 := hts (Cond.instantiable RX3 13) (List.mem_cons_of_mem _ (GL_1 _ (by decide +kernel)))
  have w10 := hts (Cond.initialized RX3) (List.mem_cons_of_mem _ (GL_1 _ (by decide +kernel)))
  have w11 := hts (Cond.methodLink RX5 17 yX3_init) (List.mem_cons_of_mem _ (GL_4 _ (by decide +kernel)))
  have w12 := hts (Cond.instanceMethod yX3_init) (List.mem_cons_of_mem _ (GL_2 _ (by decide +kernel)))
  have w13 := hts (Cond.fieldLink RX5 18 "SightLegend$SignText" "signs" "LSightLegend$MapState;") (List.mem_cons_of_mem _ (GL_4 _ (by decide +kernel)))
  refine m_eq (ws1 := OW ws pp h 5 [Value.null, vI 0, Value.null, vI 0, vI 0] []) (ow_init h0) ?_
  refine m_aload_n (pc := 0) a 0 dX5_init_0 rfl rfl ?_
  refine m_obj (pc := 1) a w1 w2 w3 (Nat.le_of_ble_eq_true rfl) (Nat.le_of_ble_eq_true rfl) dX5_init_1 ?_
  refine m_aload_n (pc := 4) a 0 dX5_init_4 rfl rfl ?_
  refine m_sipush (pc := 5) a dX5_init_5 (by decide) ?_
  refine m_newI (pc := 8) a (n := 160) rfl (by decide) w4 (Nat.le_of_ble_eq_true rfl) (Nat.le_of_ble_eq_true rfl) dX5_init_8 (fun q1 => ?_)
  refine m_putF (pc := 10) a 0 hp vc5 w6 w5 (by decide) tyX5 tyX5_ok nmX5 rfl hn rfl (ty := tyX5 0) (tyX5_ok 0 (by decide)) rfl rfl (Nat.le_of_ble_eq_true rfl) dX5_init_10 ?_
  refine m_aload_n (pc := 13) a 0 dX5_init_13 rfl rfl ?_
  refine m_new (pc := 14) a w7 tyX3 tyX3_ok w8 w9 w10 vc3 (gs := [Value.null, Value.null, Value.null, Value.null, Value.null, vI 0, Value.null, Value.null, Value.null, Value.null, Value.null, Value.null, Value.null]) (by decide +kernel) (Nat.le_of_ble_eq_true rfl) (Nat.le_of_ble_eq_true rfl) dX5_init_14 (fun q2 => ?_)
  refine m_dup (pc := 17) a rfl dX5_init_17 ?_
  refine m_call (pc := 18) a (fun sz => c_X3_init hl0 (h := q2) ow_last sz) (cwI 0 hts (gl_W (GL_2 _ (by decide +kernel))) rfl rfl rfl w10 w11 w12 rfl (by decide +kernel) ⟨Nat.le_of_ble_eq_true rfl, Nat.le_of_ble_eq_true rfl⟩) (Nat.le_of_ble_eq_true rfl) ⟨Nat.le_of_ble_eq_true rfl, Nat.le_of_ble_eq_true rfl⟩ dX5_init_18 (fun u3 => ?_)
  refine m_putF (pc := 21) a 2 hp vc5 w6 w13 (by decide) tyX5 tyX5_ok nmX5 rfl hn rfl (ty := tyX5 2) (tyX5_ok 2 (by decide)) rfl rfl (Nat.le_of_ble_eq_true rfl) dX5_init_21 ?_
  exact m_ret (pc := 24) a (fun k => ([h, q1, q2, (u3 1), (u3 2), (u3 3), (u3 4), (u3 5), (u3 6), (u3 7), (u3 8), (u3 9), (u3 10), (u3 11), (u3 12)] : List Nat).getD k 0) hr (Nat.le_of_ble_eq_true rfl) (Nat.le_of_ble_eq_true rfl) rfl dX5_init_24

