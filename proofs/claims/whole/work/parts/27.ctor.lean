def zI : Nat → Int32 := fun _ => iI 0
def kRank : Nat → Int32 := (upd (upd (upd (upd (upd (upd (upd (upd (upd (upd (upd (upd zI 0 (iI 0)) 1 (iI 1)) 2 (iI 2)) 3 (iI 3)) 4 (iI 4)) 5 (iI 5)) 6 (iI 6)) 7 (iI 7)) 8 (iI 8)) 9 (iI 9)) 10 (iI 10)) 11 (iI 11))
def kGroup : Nat → Int32 := (upd (upd (upd (upd (upd (upd (upd (upd (upd (upd (upd (upd zI 0 (iI (-1))) 1 (iI (-1))) 2 (iI (-1))) 3 (iI (-1))) 4 (iI (-1))) 5 (iI (-1))) 6 (iI (-1))) 7 (iI (-1))) 8 (iI (-1))) 9 (iI (-1))) 10 (iI (-1))) 11 (iI (-1)))
def kWin : Nat → Int32 := (upd (upd (upd zI 2 (iI 100)) 3 (iI 100)) 4 (iI 5))
def kSet : Nat → Int32 := (upd (upd (upd (upd zI 0 (iI 3)) 1 (iI 1)) 2 (iI 20)) 3 (iI 5))
def kRow : Nat → Int32 := (upd (upd (upd (upd (upd (upd (upd (upd (upd (upd (upd (upd (upd (upd (upd (upd (upd (upd (upd (upd (upd (upd (upd (upd (upd (upd (upd (upd (upd (upd (upd zI 0 (iI 3)) 1 (iI 1)) 2 (iI 20)) 3 (iI 5)) 6 (iI 100)) 7 (iI 100)) 8 (iI 5)) 15 (iI 0)) 16 (iI (-1))) 23 (iI 1)) 24 (iI (-1))) 31 (iI 2)) 32 (iI (-1))) 39 (iI 3)) 40 (iI (-1))) 47 (iI 4)) 48 (iI (-1))) 55 (iI 5)) 56 (iI (-1))) 63 (iI 6)) 64 (iI (-1))) 71 (iI 7)) 72 (iI (-1))) 79 (iI 8)) 80 (iI (-1))) 87 (iI 9)) 88 (iI (-1))) 95 (iI 10)) 96 (iI (-1))) 103 (iI 11)) 104 (iI (-1)))
def boxF (u : Nat → Nat) (b : Nat) : List Value := [vI 0, vI 0, vI 0, vI 0, vI 0, vI 0]
def boxA (X : XI) (u : Nat → Nat) (b : Nat) : va_W := []
def rngF (u : Nat → Nat) (b : Nat) : List Value := [.ref (u (b + 1)), .ref (u (b + 2)), .ref (u (b + 3)), .ref (u (b + 4)), .ref (u (b + 5)), .ref (u (b + 6))]
def rngA (X : XI) (u : Nat → Nat) (b : Nat) : va_W := [((u (b + 1)), .inl (X.1, 12, .inl zI)), ((u (b + 2)), .inl (X.1, 72, .inl zI)), ((u (b + 3)), .inl (X.1, 12, .inl zI)), ((u (b + 4)), .inl (X.1, 72, .inl zI)), ((u (b + 5)), .inl (X.1, 72, .inl zI)), ((u (b + 6)), .inl (X.1, 72, .inl zI))]
def linF (u : Nat → Nat) (b : Nat) : List Value := [vI 0, .ref (u (b + 1)), .ref (u (b + 2)), .ref (u (b + 3)), .ref (u (b + 4)), .ref (u (b + 5)), .ref (u (b + 6)), .ref (u (b + 7)), .ref (u (b + 8)), vI 0, vI 0, .ref (u (b + 9)), vI 0, .ref (u (b + 10))]
def linA (X : XI) (u : Nat → Nat) (b : Nat) : va_W := [((u (b + 1)), .inl (X.1, 77, .inl zI)), ((u (b + 2)), .inl (X.1, 77, .inl zI)), ((u (b + 3)), .inl (X.1, 77, .inl zI)), ((u (b + 4)), .inl (X.1, 77, .inl zI)), ((u (b + 5)), .inl (X.1, 77, .inl zI)), ((u (b + 6)), .inl (X.1, 77, .inl zI)), ((u (b + 7)), .inl (X.1, 77, .inl zI)), ((u (b + 8)), .inl (X.1, 77, .inl zI)), ((u (b + 9)), .inl (X.1, 12, .inl zI)), ((u (b + 10)), .inl (X.2.1, 5, .inl zI))]
def mapF (u : Nat → Nat) (b : Nat) : List Value := [.ref (u (b + 1)), .ref (u (b + 2)), .ref (u (b + 3)), .ref (u (b + 4)), .ref (u (b + 5)), vI 0, .ref (u (b + 6)), .ref (u (b + 7)), .ref (u (b + 8)), .ref (u (b + 9)), .ref (u (b + 10)), .ref (u (b + 11)), .ref (u (b + 12))]
def mapA (X : XI) (u : Nat → Nat) (b : Nat) : va_W := [((u (b + 1)), .inl (X.1, 40, .inl zI)), ((u (b + 2)), .inl (X.1, 40, .inl zI)), ((u (b + 3)), .inl (X.1, 40, .inl zI)), ((u (b + 4)), .inl (X.1, 40, .inl zI)), ((u (b + 5)), .inl (X.1, 40, .inl zI)), ((u (b + 6)), .inl (X.1, 12, .inl kRank)), ((u (b + 7)), .inl (X.1, 12, .inl kGroup)), ((u (b + 8)), .inl (X.1, 12, .inl zI)), ((u (b + 9)), .inl (X.1, 60, .inl zI)), ((u (b + 10)), .inl (X.1, 5, .inl zI)), ((u (b + 11)), .inl (X.1, 5, .inl kWin)), ((u (b + 12)), .inl (X.1, 4, .inl kSet))]
def legF (u : Nat → Nat) (b : Nat) : List Value := [vI 0, .ref (u (b + 1)), .ref (u (b + 2)), vI 0, vI 0, .ref (u (b + 3)), .ref (u (b + 10)), .ref (u (b + 21)), .ref (u (b + 32)), vI 0, vI 0, vI 0]
def legA (X : XI) (u : Nat → Nat) (b : Nat) : va_W := ((((((([(u (b + 1), .inl (X.2.1, 40, .inl zI)), (u (b + 2), .inl (X.2.1, 40, .inl zI)), (u (b + 3), .inr (4, rngF u (b + 3)))] ++ rngA X u (b + 3)) ++ [(u (b + 10), .inr (2, linF u (b + 10)))]) ++ linA X u (b + 10)) ++ [(u (b + 21), .inr (2, linF u (b + 21)))]) ++ linA X u (b + 21)) ++ [(u (b + 32), .inr (0, boxF u (b + 32)))]) ++ boxA X u (b + 32))
def txtF (u : Nat → Nat) (b : Nat) : List Value := [.ref (u (b + 1)), vI 0, .ref (u (b + 2)), vI 0, vI 0]
def txtA (X : XI) (u : Nat → Nat) (b : Nat) : va_W := [(u (b + 1), .inl (X.1, 160, .inl zI)), (u (b + 2), .inr (3, mapF u (b + 2)))] ++ mapA X u (b + 2)
def slF (u : Nat → Nat) (b : Nat) : List Value := [.ref (u (b + 1)), .ref (u (b + 14)), .ref (u (b + 47)), .ref (u (b + 60)), .ref (u (b + 93)), .ref (u (b + 108)), vI 0, vI 0]
def slA (X : XI) (u : Nat → Nat) (b : Nat) : va_W := (((((((((((((((((([(u (b + 1), .inr (3, mapF u (b + 1)))] ++ mapA X u (b + 1)) ++ [(u (b + 14), .inr (1, legF u (b + 14)))]) ++ legA X u (b + 14)) ++ [(u (b + 47), .inr (3, mapF u (b + 47)))]) ++ mapA X u (b + 47)) ++ [(u (b + 60), .inr (1, legF u (b + 60)))]) ++ legA X u (b + 60)) ++ [(u (b + 93), .inr (5, txtF u (b + 93)))]) ++ txtA X u (b + 93)) ++ [(u (b + 108), .inl (X.2.2.1, 4, .inr (.inr (.inr (.inr (va_up (va_up (va_up (va_up (fun _ => none) 0 (some (u (b + 109)))) 1 (some (u (b + 122)))) 2 (some (u (b + 135)))) 3 (some (u (b + 148)))))))))]) ++ [(u (b + 109), .inr (3, mapF u (b + 109)))]) ++ mapA X u (b + 109)) ++ [(u (b + 122), .inr (3, mapF u (b + 122)))]) ++ mapA X u (b + 122)) ++ [(u (b + 135), .inr (3, mapF u (b + 135)))]) ++ mapA X u (b + 135)) ++ [(u (b + 148), .inr (3, mapF u (b + 148)))]) ++ mapA X u (b + 148))
def modF (u : Nat → Nat) (b : Nat) : List Value := [.ref (u (b + 1)), .ref (u (b + 2)), .ref (u (b + 3)), .ref (u (b + 4)), vI 0, .ref (u (b + 5)), vI 0, vI 0, .ref (u (b + 6)), .ref (u (b + 7)), .ref (u (b + 8)), .ref (u (b + 9)), .ref (u (b + 10)), vI 0, vI 0, vI 0, vI 0, vI 0, vI 0, vI 0, vI 0, vI 0, vI 0, .ref (u (b + 11)), .ref (u (b + 12)), .ref (u (b + 13)), .ref (u (b + 14)), vI 0, vJ 0]
def modA (X : XI) (u : Nat → Nat) (b : Nat) : va_W := [((u (b + 1)), .inl (X.1, 311, .inl kRow)), ((u (b + 2)), .inl (X.1, 1244, .inl zI)), ((u (b + 3)), .inl (X.1, 311, .inl zI)), ((u (b + 4)), .inl (X.1, 311, .inl zI)), ((u (b + 5)), .inl (X.1, 160, .inl zI)), ((u (b + 6)), .inl (X.2.1, 40, .inl zI)), ((u (b + 7)), .inl (X.1, 400, .inl zI)), ((u (b + 8)), .inl (X.1, 400, .inl zI)), ((u (b + 9)), .inl (X.1, 80, .inl zI)), ((u (b + 10)), .inl (X.1, 80, .inl zI)), ((u (b + 11)), .inl (X.1, 6, .inl zI)), ((u (b + 12)), .inl (X.1, 6, .inl zI)), ((u (b + 13)), .inl (X.1, 6, .inl zI)), ((u (b + 14)), .inl (X.2.1, 12, .inl zI))]
/-- the addresses of a block: its object's own, then those behind it -/
def uu (h : Nat) (u : Nat → Nat) : Nat → Nat := fun k => match k with
  | 0 => h
  | k + 1 => u (k + 1)
theorem ow_init {ws : va_W} {pp h ci : Nat} {fs : List Value} (h0 : ws[pp]? = some (h, .inr (ci, fs))) : ws = OW ws pp h ci fs [] := by
  rw [OW, List.append_nil]
  refine List.ext_getElem? fun i => ?_
  have hp : pp < ws.length := (List.getElem?_eq_some_iff.mp h0).1
  by_cases e : i = pp
  · subst e; rw [List.getElem?_set_self hp, h0]
  · rw [List.getElem?_set_ne (Ne.symm e)]
set_option maxRecDepth 100000 in
set_option maxHeartbeats 4000000 in
theorem c_X0_init {l : Launch} {D : va_G} {X : XI} (hl0 : l.stackTraces = false) {ws : va_W} {pp h : Nat} (h0 : ws[pp]? = some (h, .inr (0, [vI 0, vI 0, vI 0, vI 0, vI 0, vI 0]))) (sz : Nat) : Met l yX0_init (WW (.code yX0_init cX0_init 1 none)) { frames := 1, cells := 0, slots := 0, locals := 12 } (va_Pc [.ref h] (WC D X ws sz)) (QC D (va_A ws sz) (fun u => OW ws pp h 0 (boxF (uu h u) 0) (boxA X (uu h u) 0))) 0 0 (va_A ws sz) := by
  have hp : pp < ws.length := (List.getElem?_eq_some_iff.mp h0).1
  refine m_start (own := RX0) (cc := cX0_init) (maxL := 1) (by decide) rfl rfl rfl (Nat.le_of_ble_eq_true rfl) ?_
  intro p e s m below meth c a hr hn hsz
  have hts := a.1.2.2.2.2
  have w1 := hts (Cond.methodLink RX0 3 objectInit) (List.mem_cons_of_mem _ (GL_4 _ (by decide +kernel)))
  have w2 := hts (Cond.instanceMethod objectInit) (List.mem_cons_of_mem _ (GL_1 _ (by decide +kernel)))
  have w3 := hts (Cond.code objectInit ⟨#[0xb1]⟩ 1 none) (List.mem_cons_of_mem _ (GL_1 _ (by decide +kernel)))
  refine m_eq (ws1 := OW ws pp h 0 [vI 0, vI 0, vI 0, vI 0, vI 0, vI 0] []) (ow_init h0) ?_
  refine m_aload_n (pc := 0) a 0 dX0_init_0 rfl rfl ?_
  refine m_obj (pc := 1) a w1 w2 w3 (Nat.le_of_ble_eq_true rfl) (Nat.le_of_ble_eq_true rfl) dX0_init_1 ?_
  exact m_ret (pc := 4) a (fun k => ([h] : List Nat).getD k 0) hr (Nat.le_of_ble_eq_true rfl) (Nat.le_of_ble_eq_true rfl) rfl dX0_init_4

set_option maxRecDepth 100000 in
set_option maxHeartbeats 4000000 in
theorem c_X4_init {l : Launch} {D : va_G} {X : XI} (hl0 : l.stackTraces = false) {ws : va_W} {pp h : Nat} (h0 : ws[pp]? = some (h, .inr (4, [Value.null, Value.null, Value.null, Value.null, Value.null, Value.null]))) (sz : Nat) : Met l yX4_init (WW (.code yX4_init cX4_init 1 none)) { frames := 1, cells := 6, slots := 312, locals := 12 } (va_Pc [.ref h] (WC D X ws sz)) (QC D (va_A ws sz) (fun u => OW ws pp h 4 (rngF (uu h u) 0) (rngA X (uu h u) 0))) 6 312 (va_A ws sz) := by
  have hp : pp < ws.length := (List.getElem?_eq_some_iff.mp h0).1
  refine m_start (own := RX4) (cc := cX4_init) (maxL := 1) (by decide) rfl rfl rfl (Nat.le_of_ble_eq_true rfl) ?_
  intro p e s m below meth c a hr hn hsz
  have hts := a.1.2.2.2.2
  have w1 := hts (Cond.methodLink RX4 3 objectInit) (List.mem_cons_of_mem _ (GL_3 _ (by decide +kernel)))
  have w2 := hts (Cond.instanceMethod objectInit) (List.mem_cons_of_mem _ (GL_1 _ (by decide +kernel)))
  have w3 := hts (Cond.code objectInit ⟨#[0xb1]⟩ 1 none) (List.mem_cons_of_mem _ (GL_1 _ (by decide +kernel)))
  have w4 := hts (Cond.arrayClass .int) (List.mem_cons_of_mem _ (GL_2 _ (by decide +kernel)))
  have w5 := hts (Cond.fieldLink RX4 9 "SightLegend$Ranges" "total" "[I") (List.mem_cons_of_mem _ (GL_3 _ (by decide +kernel)))
  have w6 : ∀ w ∈ u_ws RX4 TX4 6, w ∈ WW (.code yX4_init cX4_init 1 none) := fun w h => List.mem_cons_of_mem _ (inlX4 w h)
  have w7 := hts (Cond.fieldLink RX4 15 "SightLegend$Ranges" "classSigns" "[I") (List.mem_cons_of_mem _ (GL_3 _ (by decide +kernel)))
  have w8 := hts (Cond.fieldLink RX4 18 "SightLegend$Ranges" "size" "[I") (List.mem_cons_of_mem _ (GL_3 _ (by decide +kernel)))
  have w9 := hts (Cond.fieldLink RX4 21 "SightLegend$Ranges" "first" "[I") (List.mem_cons_of_mem _ (GL_3 _ (by decide +kernel)))
  have w10 := hts (Cond.fieldLink RX4 24 "SightLegend$Ranges" "last" "[I") (List.mem_cons_of_mem _ (GL_3 _ (by decide +kernel)))
  have w11 := hts (Cond.fieldLink RX4 27 "SightLegend$Ranges" "signs" "[I") (List.mem_cons_of_mem _ (GL_4 _ (by decide +kernel)))
  refine m_eq (ws1 := OW ws pp h 4 [Value.null, Value.null, Value.null, Value.null, Value.null, Value.null] []) (ow_init h0) ?_
  refine m_aload_n (pc := 0) a 0 dX4_init_0 rfl rfl ?_
  refine m_obj (pc := 1) a w1 w2 w3 (Nat.le_of_ble_eq_true rfl) (Nat.le_of_ble_eq_true rfl) dX4_init_1 ?_
  refine m_aload_n (pc := 4) a 0 dX4_init_4 rfl rfl ?_
  refine m_bipush (pc := 5) a dX4_init_5 (by decide) ?_
  refine m_newI (pc := 7) a (n := 12) rfl (by decide) w4 (Nat.le_of_ble_eq_true rfl) (Nat.le_of_ble_eq_true rfl) dX4_init_7 (fun q1 => ?_)
  refine m_putF (pc := 9) a 0 hp vc4 w6 w5 (by decide) tyX4 tyX4_ok nmX4 rfl hn rfl (ty := tyX4 0) (tyX4_ok 0 (by decide)) rfl rfl (Nat.le_of_ble_eq_true rfl) dX4_init_9 ?_
  refine m_aload_n (pc := 12) a 0 dX4_init_12 rfl rfl ?_
  refine m_bipush (pc := 13) a dX4_init_13 (by decide) ?_
  refine m_newI (pc := 15) a (n := 72) rfl (by decide) w4 (Nat.le_of_ble_eq_true rfl) (Nat.le_of_ble_eq_true rfl) dX4_init_15 (fun q2 => ?_)
  refine m_putF (pc := 17) a 1 hp vc4 w6 w7 (by decide) tyX4 tyX4_ok nmX4 rfl hn rfl (ty := tyX4 1) (tyX4_ok 1 (by decide)) rfl rfl (Nat.le_of_ble_eq_true rfl) dX4_init_17 ?_
  refine m_aload_n (pc := 20) a 0 dX4_init_20 rfl rfl ?_
  refine m_bipush (pc := 21) a dX4_init_21 (by decide) ?_
  refine m_newI (pc := 23) a (n := 12) rfl (by decide) w4 (Nat.le_of_ble_eq_true rfl) (Nat.le_of_ble_eq_true rfl) dX4_init_23 (fun q3 => ?_)
  refine m_putF (pc := 25) a 2 hp vc4 w6 w8 (by decide) tyX4 tyX4_ok nmX4 rfl hn rfl (ty := tyX4 2) (tyX4_ok 2 (by decide)) rfl rfl (Nat.le_of_ble_eq_true rfl) dX4_init_25 ?_
  refine m_aload_n (pc := 28) a 0 dX4_init_28 rfl rfl ?_
  refine m_bipush (pc := 29) a dX4_init_29 (by decide) ?_
  refine m_newI (pc := 31) a (n := 72) rfl (by decide) w4 (Nat.le_of_ble_eq_true rfl) (Nat.le_of_ble_eq_true rfl) dX4_init_31 (fun q4 => ?_)
  refine m_putF (pc := 33) a 3 hp vc4 w6 w9 (by decide) tyX4 tyX4_ok nmX4 rfl hn rfl (ty := tyX4 3) (tyX4_ok 3 (by decide)) rfl rfl (Nat.le_of_ble_eq_true rfl) dX4_init_33 ?_
  refine m_aload_n (pc := 36) a 0 dX4_init_36 rfl rfl ?_
  refine m_bipush (pc := 37) a dX4_init_37 (by decide) ?_
  refine m_newI (pc := 39) a (n := 72) rfl (by decide) w4 (Nat.le_of_ble_eq_true rfl) (Nat.le_of_ble_eq_true rfl) dX4_init_39 (fun q5 => ?_)
  refine m_putF (pc := 41) a 4 hp vc4 w6 w10 (by decide) tyX4 tyX4_ok nmX4 rfl hn rfl (ty := tyX4 4) (tyX4_ok 4 (by decide)) rfl rfl (Nat.le_of_ble_eq_true rfl) dX4_init_41 ?_
  refine m_aload_n (pc := 44) a 0 dX4_init_44 rfl rfl ?_
  refine m_bipush (pc := 45) a dX4_init_45 (by decide) ?_
  refine m_newI (pc := 47) a (n := 72) rfl (by decide) w4 (Nat.le_of_ble_eq_true rfl) (Nat.le_of_ble_eq_true rfl) dX4_init_47 (fun q6 => ?_)
  refine m_putF (pc := 49) a 5 hp vc4 w6 w11 (by decide) tyX4 tyX4_ok nmX4 rfl hn rfl (ty := tyX4 5) (tyX4_ok 5 (by decide)) rfl rfl (Nat.le_of_ble_eq_true rfl) dX4_init_49 ?_
  exact m_ret (pc := 52) a (fun k => ([h, q1, q2, q3, q4, q5, q6] : List Nat).getD k 0) hr (Nat.le_of_ble_eq_true rfl) (Nat.le_of_ble_eq_true rfl) rfl dX4_init_52

set_option maxRecDepth 100000 in
set_option maxHeartbeats 4000000 in
theorem c_X2_init {l : Launch} {D : va_G} {X : XI} (hl0 : l.stackTraces = false) {ws : va_W} {pp h : Nat} (h0 : ws[pp]? = some (h, .inr (2, [vI 0, Value.null, Value.null, Value.null, Value.null, Value.null, Value.null, Value.null, Value.null, vI 0, vI 0, Value.null, vI 0, Value.null]))) (sz : Nat) : Met l yX2_init (WW (.code yX2_init cX2_init 1 none)) { frames := 1, cells := 10, slots := 633, locals := 12 } (va_Pc [.ref h] (WC D X ws sz)) (QC D (va_A ws sz) (fun u => OW ws pp h 2 (linF (uu h u) 0) (linA X (uu h u) 0))) 10 633 (va_A ws sz) := by
  have hp : pp < ws.length := (List.getElem?_eq_some_iff.mp h0).1
  refine m_start (own := RX2) (cc := cX2_init) (maxL := 1) (by decide) rfl rfl rfl (Nat.le_of_ble_eq_true rfl) ?_
  intro p e s m below meth c a hr hn hsz
  have hts := a.1.2.2.2.2
  have w1 := hts (Cond.methodLink RX2 3 objectInit) (List.mem_cons_of_mem _ (GL_4 _ (by decide +kernel)))
  have w2 := hts (Cond.instanceMethod objectInit) (List.mem_cons_of_mem _ (GL_1 _ (by decide +kernel)))
  have w3 := hts (Cond.code objectInit ⟨#[0xb1]⟩ 1 none) (List.mem_cons_of_mem _ (GL_1 _ (by decide +kernel)))
  have w4 := hts (Cond.arrayClass .int) (List.mem_cons_of_mem _ (GL_2 _ (by decide +kernel)))
  have w5 := hts (Cond.fieldLink RX2 9 "SightLegend$Lines" "type" "[I") (List.mem_cons_of_mem _ (GL_4 _ (by decide +kernel)))
  have w6 : ∀ w ∈ u_ws RX2 TX2 14, w ∈ WW (.code yX2_init cX2_init 1 none) := fun w h => List.mem_cons_of_mem _ (inlX2 w h)
  have w7 := hts (Cond.fieldLink RX2 15 "SightLegend$Lines" "kind" "[I") (List.mem_cons_of_mem _ (GL_4 _ (by decide +kernel)))
  have w8 := hts (Cond.fieldLink RX2 18 "SightLegend$Lines" "group" "[I") (List.mem_cons_of_mem _ (GL_4 _ (by decide +kernel)))
  have w9 := hts (Cond.fieldLink RX2 21 "SightLegend$Lines" "first" "[I") (List.mem_cons_of_mem _ (GL_4 _ (by decide +kernel)))
  have w10 := hts (Cond.fieldLink RX2 24 "SightLegend$Lines" "last" "[I") (List.mem_cons_of_mem _ (GL_4 _ (by decide +kernel)))
  have w11 := hts (Cond.fieldLink RX2 27 "SightLegend$Lines" "signs" "[I") (List.mem_cons_of_mem _ (GL_4 _ (by decide +kernel)))
  have w12 := hts (Cond.fieldLink RX2 30 "SightLegend$Lines" "column" "[I") (List.mem_cons_of_mem _ (GL_4 _ (by decide +kernel)))
  have w13 := hts (Cond.fieldLink RX2 33 "SightLegend$Lines" "place" "[I") (List.mem_cons_of_mem _ (GL_4 _ (by decide +kernel)))
  have w14 := hts (Cond.fieldLink RX2 36 "SightLegend$Lines" "order" "[I") (List.mem_cons_of_mem _ (GL_4 _ (by decide +kernel)))
  have w15 := hts (Cond.arrayClass .boolean) (List.mem_cons_of_mem _ (GL_3 _ (by decide +kernel)))
  have w16 := hts (Cond.fieldLink RX2 39 "SightLegend$Lines" "groupDone" "[Z") (List.mem_cons_of_mem _ (GL_4 _ (by decide +kernel)))
  refine m_eq (ws1 := OW ws pp h 2 [vI 0, Value.null, Value.null, Value.null, Value.null, Value.null, Value.null, Value.null, Value.null, vI 0, vI 0, Value.null, vI 0, Value.null] []) (ow_init h0) ?_
  refine m_aload_n (pc := 0) a 0 dX2_init_0 rfl rfl ?_
  refine m_obj (pc := 1) a w1 w2 w3 (Nat.le_of_ble_eq_true rfl) (Nat.le_of_ble_eq_true rfl) dX2_init_1 ?_
  refine m_aload_n (pc := 4) a 0 dX2_init_4 rfl rfl ?_
  refine m_bipush (pc := 5) a dX2_init_5 (by decide) ?_
  refine m_newI (pc := 7) a (n := 77) rfl (by decide) w4 (Nat.le_of_ble_eq_true rfl) (Nat.le_of_ble_eq_true rfl) dX2_init_7 (fun q1 => ?_)
  refine m_putF (pc := 9) a 1 hp vc2 w6 w5 (by decide) tyX2 tyX2_ok nmX2 rfl hn rfl (ty := tyX2 1) (tyX2_ok 1 (by decide)) rfl rfl (Nat.le_of_ble_eq_true rfl) dX2_init_9 ?_
  refine m_aload_n (pc := 12) a 0 dX2_init_12 rfl rfl ?_
  refine m_bipush (pc := 13) a dX2_init_13 (by decide) ?_
  refine m_newI (pc := 15) a (n := 77) rfl (by decide) w4 (Nat.le_of_ble_eq_true rfl) (Nat.le_of_ble_eq_true rfl) dX2_init_15 (fun q2 => ?_)
  refine m_putF (pc := 17) a 2 hp vc2 w6 w7 (by decide) tyX2 tyX2_ok nmX2 rfl hn rfl (ty := tyX2 2) (tyX2_ok 2 (by decide)) rfl rfl (Nat.le_of_ble_eq_true rfl) dX2_init_17 ?_
  refine m_aload_n (pc := 20) a 0 dX2_init_20 rfl rfl ?_
  refine m_bipush (pc := 21) a dX2_init_21 (by decide) ?_
  refine m_newI (pc := 23) a (n := 77) rfl (by decide) w4 (Nat.le_of_ble_eq_true rfl) (Nat.le_of_ble_eq_true rfl) dX2_init_23 (fun q3 => ?_)
  refine m_putF (pc := 25) a 3 hp vc2 w6 w8 (by decide) tyX2 tyX2_ok nmX2 rfl hn rfl (ty := tyX2 3) (tyX2_ok 3 (by decide)) rfl rfl (Nat.le_of_ble_eq_true rfl) dX2_init_25 ?_
  refine m_aload_n (pc := 28) a 0 dX2_init_28 rfl rfl ?_
  refine m_bipush (pc := 29) a dX2_init_29 (by decide) ?_
  refine m_newI (pc := 31) a (n := 77) rfl (by decide) w4 (Nat.le_of_ble_eq_true rfl) (Nat.le_of_ble_eq_true rfl) dX2_init_31 (fun q4 => ?_)
  refine m_putF (pc := 33) a 4 hp vc2 w6 w9 (by decide) tyX2 tyX2_ok nmX2 rfl hn rfl (ty := tyX2 4) (tyX2_ok 4 (by decide)) rfl rfl (Nat.le_of_ble_eq_true rfl) dX2_init_33 ?_
  refine m_aload_n (pc := 36) a 0 dX2_init_36 rfl rfl ?_
  refine m_bipush (pc := 37) a dX2_init_37 (by decide) ?_
  refine m_newI (pc := 39) a (n := 77) rfl (by decide) w4 (Nat.le_of_ble_eq_true rfl) (Nat.le_of_ble_eq_true rfl) dX2_init_39 (fun q5 => ?_)
  refine m_putF (pc := 41) a 5 hp vc2 w6 w10 (by decide) tyX2 tyX2_ok nmX2 rfl hn rfl (ty := tyX2 5) (tyX2_ok 5 (by decide)) rfl rfl (Nat.le_of_ble_eq_true rfl) dX2_init_41 ?_
  refine m_aload_n (pc := 44) a 0 dX2_init_44 rfl rfl ?_
  refine m_bipush (pc := 45) a dX2_init_45 (by decide) ?_
  refine m_newI (pc := 47) a (n := 77) rfl (by decide) w4 (Nat.le_of_ble_eq_true rfl) (Nat.le_of_ble_eq_true rfl) dX2_init_47 (fun q6 => ?_)
  refine m_putF (pc := 49) a 6 hp vc2 w6 w11 (by decide) tyX2 tyX2_ok nmX2 rfl hn rfl (ty := tyX2 6) (tyX2_ok 6 (by decide)) rfl rfl (Nat.le_of_ble_eq_true rfl) dX2_init_49 ?_
  refine m_aload_n (pc := 52) a 0 dX2_init_52 rfl rfl ?_
  refine m_bipush (pc := 53) a dX2_init_53 (by decide) ?_
  refine m_newI (pc := 55) a (n := 77) rfl (by decide) w4 (Nat.le_of_ble_eq_true rfl) (Nat.le_of_ble_eq_true rfl) dX2_init_55 (fun q7 => ?_)
  refine m_putF (pc := 57) a 7 hp vc2 w6 w12 (by decide) tyX2 tyX2_ok nmX2 rfl hn rfl (ty := tyX2 7) (tyX2_ok 7 (by decide)) rfl rfl (Nat.le_of_ble_eq_true rfl) dX2_init_57 ?_
  refine m_aload_n (pc := 60) a 0 dX2_init_60 rfl rfl ?_
  refine m_bipush (pc := 61) a dX2_init_61 (by decide) ?_
  refine m_newI (pc := 63) a (n := 77) rfl (by decide) w4 (Nat.le_of_ble_eq_true rfl) (Nat.le_of_ble_eq_true rfl) dX2_init_63 (fun q8 => ?_)
  refine m_putF (pc := 65) a 8 hp vc2 w6 w13 (by decide) tyX2 tyX2_ok nmX2 rfl hn rfl (ty := tyX2 8) (tyX2_ok 8 (by decide)) rfl rfl (Nat.le_of_ble_eq_true rfl) dX2_init_65 ?_
  refine m_aload_n (pc := 68) a 0 dX2_init_68 rfl rfl ?_
  refine m_bipush (pc := 69) a dX2_init_69 (by decide) ?_
  refine m_newI (pc := 71) a (n := 12) rfl (by decide) w4 (Nat.le_of_ble_eq_true rfl) (Nat.le_of_ble_eq_true rfl) dX2_init_71 (fun q9 => ?_)
  refine m_putF (pc := 73) a 11 hp vc2 w6 w14 (by decide) tyX2 tyX2_ok nmX2 rfl hn rfl (ty := tyX2 11) (tyX2_ok 11 (by decide)) rfl rfl (Nat.le_of_ble_eq_true rfl) dX2_init_73 ?_
  refine m_aload_n (pc := 76) a 0 dX2_init_76 rfl rfl ?_
  refine m_iconst (pc := 77) a dX2_init_77 ?_
  refine m_newZ (pc := 78) a (n := 5) rfl (by decide) w15 (Nat.le_of_ble_eq_true rfl) (Nat.le_of_ble_eq_true rfl) dX2_init_78 (fun q10 => ?_)
  refine m_putF (pc := 80) a 13 hp vc2 w6 w16 (by decide) tyX2 tyX2_ok nmX2 rfl hn rfl (ty := tyX2 13) (tyX2_ok 13 (by decide)) rfl rfl (Nat.le_of_ble_eq_true rfl) dX2_init_80 ?_
  exact m_ret (pc := 83) a (fun k => ([h, q1, q2, q3, q4, q5, q6, q7, q8, q9, q10] : List Nat).getD k 0) hr (Nat.le_of_ble_eq_true rfl) (Nat.le_of_ble_eq_true rfl) rfl dX2_init_83

set_option maxRecDepth 100000 in
set_option maxHeartbeats 4000000 in
theorem c_X3_init {l : Launch} {D : va_G} {X : XI} (hl0 : l.stackTraces = false) {ws : va_W} {pp h : Nat} (h0 : ws[pp]? = some (h, .inr (3, [Value.null, Value.null, Value.null, Value.null, Value.null, vI 0, Value.null, Value.null, Value.null, Value.null, Value.null, Value.null, Value.null]))) (sz : Nat) : Met l yX3_init (WW (.code yX3_init cX3_init 2 none)) { frames := 1, cells := 12, slots := 310, locals := 12 } (va_Pc [.ref h] (WC D X ws sz)) (QC D (va_A ws sz) (fun u => OW ws pp h 3 (mapF (uu h u) 0) (mapA X (uu h u) 0))) 12 310 (va_A ws sz) := by
  have hp : pp < ws.length := (List.getElem?_eq_some_iff.mp h0).1
  refine m_start (own := RX3) (cc := cX3_init) (maxL := 2) (by decide) rfl rfl rfl (Nat.le_of_ble_eq_true rfl) ?_
  intro p e s m below meth c a hr hn hsz
  have hts := a.1.2.2.2.2
  have w1 := hts (Cond.methodLink RX3 3 objectInit) (List.mem_cons_of_mem _ (GL_2 _ (by decide +kernel)))
  have w2 := hts (Cond.instanceMethod objectInit) (List.mem_cons_of_mem _ (GL_1 _ (by decide +kernel)))
  have w3 := hts (Cond.code objectInit ⟨#[0xb1]⟩ 1 none) (List.mem_cons_of_mem _ (GL_1 _ (by decide +kernel)))
  have w4 := hts (Cond.arrayClass .int) (List.mem_cons_of_mem _ (GL_2 _ (by decide +kernel)))
  have w5 := hts (Cond.fieldLink RX3 9 "SightLegend$MapState" "signKind" "[I") (List.mem_cons_of_mem _ (GL_2 _ (by decide +kernel)))
  have w6 : ∀ w ∈ u_ws RX3 TX3 13, w ∈ WW (.code yX3_init cX3_init 2 none) := fun w h => List.mem_cons_of_mem _ (inlX3 w h)
  have w7 := hts (Cond.fieldLink RX3 15 "SightLegend$MapState" "signColumn" "[I") (List.mem_cons_of_mem _ (GL_2 _ (by decide +kernel)))
  have w8 := hts (Cond.fieldLink RX3 18 "SightLegend$MapState" "signRow" "[I") (List.mem_cons_of_mem _ (GL_2 _ (by decide +kernel)))
  have w9 := hts (Cond.fieldLink RX3 21 "SightLegend$MapState" "signValue" "[I") (List.mem_cons_of_mem _ (GL_2 _ (by decide +kernel)))
  have w10 := hts (Cond.fieldLink RX3 24 "SightLegend$MapState" "signLevel" "[I") (List.mem_cons_of_mem _ (GL_2 _ (by decide +kernel)))
  have w11 := hts (Cond.fieldLink RX3 27 "SightLegend$MapState" "rank" "[I") (List.mem_cons_of_mem _ (GL_2 _ (by decide +kernel)))
  have w12 := hts (Cond.fieldLink RX3 30 "SightLegend$MapState" "group" "[I") (List.mem_cons_of_mem _ (GL_2 _ (by decide +kernel)))
  have w13 := hts (Cond.fieldLink RX3 33 "SightLegend$MapState" "limitCount" "[I") (List.mem_cons_of_mem _ (GL_2 _ (by decide +kernel)))
  have w14 := hts (Cond.fieldLink RX3 36 "SightLegend$MapState" "limits" "[I") (List.mem_cons_of_mem _ (GL_2 _ (by decide +kernel)))
  have w15 := hts (Cond.fieldLink RX3 39 "SightLegend$MapState" "way" "[I") (List.mem_cons_of_mem _ (GL_2 _ (by decide +kernel)))
  have w16 := hts (Cond.fieldLink RX3 42 "SightLegend$MapState" "window" "[I") (List.mem_cons_of_mem _ (GL_2 _ (by decide +kernel)))
  have w17 := hts (Cond.fieldLink RX3 45 "SightLegend$MapState" "settings" "[I") (List.mem_cons_of_mem _ (GL_2 _ (by decide +kernel)))
  refine m_eq (ws1 := OW ws pp h 3 [Value.null, Value.null, Value.null, Value.null, Value.null, vI 0, Value.null, Value.null, Value.null, Value.null, Value.null, Value.null, Value.null] []) (ow_init h0) ?_
  refine m_aload_n (pc := 0) a 0 dX3_init_0 rfl rfl ?_
  refine m_obj (pc := 1) a w1 w2 w3 (Nat.le_of_ble_eq_true rfl) (Nat.le_of_ble_eq_true rfl) dX3_init_1 ?_
  refine m_aload_n (pc := 4) a 0 dX3_init_4 rfl rfl ?_
  refine m_bipush (pc := 5) a dX3_init_5 (by decide) ?_
  refine m_newI (pc := 7) a (n := 40) rfl (by decide) w4 (Nat.le_of_ble_eq_true rfl) (Nat.le_of_ble_eq_true rfl) dX3_init_7 (fun q1 => ?_)
  refine m_putF (pc := 9) a 0 hp vc3 w6 w5 (by decide) tyX3 tyX3_ok nmX3 rfl hn rfl (ty := tyX3 0) (tyX3_ok 0 (by decide)) rfl rfl (Nat.le_of_ble_eq_true rfl) dX3_init_9 ?_
  refine m_aload_n (pc := 12) a 0 dX3_init_12 rfl rfl ?_
  refine m_bipush (pc := 13) a dX3_init_13 (by decide) ?_
  refine m_newI (pc := 15) a (n := 40) rfl (by decide) w4 (Nat.le_of_ble_eq_true rfl) (Nat.le_of_ble_eq_true rfl) dX3_init_15 (fun q2 => ?_)
  refine m_putF (pc := 17) a 1 hp vc3 w6 w7 (by decide) tyX3 tyX3_ok nmX3 rfl hn rfl (ty := tyX3 1) (tyX3_ok 1 (by decide)) rfl rfl (Nat.le_of_ble_eq_true rfl) dX3_init_17 ?_
  refine m_aload_n (pc := 20) a 0 dX3_init_20 rfl rfl ?_
  refine m_bipush (pc := 21) a dX3_init_21 (by decide) ?_
  refine m_newI (pc := 23) a (n := 40) rfl (by decide) w4 (Nat.le_of_ble_eq_true rfl) (Nat.le_of_ble_eq_true rfl) dX3_init_23 (fun q3 => ?_)
  refine m_putF (pc := 25) a 2 hp vc3 w6 w8 (by decide) tyX3 tyX3_ok nmX3 rfl hn rfl (ty := tyX3 2) (tyX3_ok 2 (by decide)) rfl rfl (Nat.le_of_ble_eq_true rfl) dX3_init_25 ?_
  refine m_aload_n (pc := 28) a 0 dX3_init_28 rfl rfl ?_
  refine m_bipush (pc := 29) a dX3_init_29 (by decide) ?_
  refine m_newI (pc := 31) a (n := 40) rfl (by decide) w4 (Nat.le_of_ble_eq_true rfl) (Nat.le_of_ble_eq_true rfl) dX3_init_31 (fun q4 => ?_)
  refine m_putF (pc := 33) a 3 hp vc3 w6 w9 (by decide) tyX3 tyX3_ok nmX3 rfl hn rfl (ty := tyX3 3) (tyX3_ok 3 (by decide)) rfl rfl (Nat.le_of_ble_eq_true rfl) dX3_init_33 ?_
  refine m_aload_n (pc := 36) a 0 dX3_init_36 rfl rfl ?_
  refine m_bipush (pc := 37) a dX3_init_37 (by decide) ?_
  refine m_newI (pc := 39) a (n := 40) rfl (by decide) w4 (Nat.le_of_ble_eq_true rfl) (Nat.le_of_ble_eq_true rfl) dX3_init_39 (fun q5 => ?_)
  refine m_putF (pc := 41) a 4 hp vc3 w6 w10 (by decide) tyX3 tyX3_ok nmX3 rfl hn rfl (ty := tyX3 4) (tyX3_ok 4 (by decide)) rfl rfl (Nat.le_of_ble_eq_true rfl) dX3_init_41 ?_
  refine m_aload_n (pc := 44) a 0 dX3_init_44 rfl rfl ?_
  refine m_bipush (pc := 45) a dX3_init_45 (by decide) ?_
  refine m_newI (pc := 47) a (n := 12) rfl (by decide) w4 (Nat.le_of_ble_eq_true rfl) (Nat.le_of_ble_eq_true rfl) dX3_init_47 (fun q6 => ?_)
  refine m_putF (pc := 49) a 6 hp vc3 w6 w11 (by decide) tyX3 tyX3_ok nmX3 rfl hn rfl (ty := tyX3 6) (tyX3_ok 6 (by decide)) rfl rfl (Nat.le_of_ble_eq_true rfl) dX3_init_49 ?_
  refine m_aload_n (pc := 52) a 0 dX3_init_52 rfl rfl ?_
  refine m_bipush (pc := 53) a dX3_init_53 (by decide) ?_
  refine m_newI (pc := 55) a (n := 12) rfl (by decide) w4 (Nat.le_of_ble_eq_true rfl) (Nat.le_of_ble_eq_true rfl) dX3_init_55 (fun q7 => ?_)
  refine m_putF (pc := 57) a 7 hp vc3 w6 w12 (by decide) tyX3 tyX3_ok nmX3 rfl hn rfl (ty := tyX3 7) (tyX3_ok 7 (by decide)) rfl rfl (Nat.le_of_ble_eq_true rfl) dX3_init_57 ?_
  refine m_aload_n (pc := 60) a 0 dX3_init_60 rfl rfl ?_
  refine m_bipush (pc := 61) a dX3_init_61 (by decide) ?_
  refine m_newI (pc := 63) a (n := 12) rfl (by decide) w4 (Nat.le_of_ble_eq_true rfl) (Nat.le_of_ble_eq_true rfl) dX3_init_63 (fun q8 => ?_)
  refine m_putF (pc := 65) a 8 hp vc3 w6 w13 (by decide) tyX3 tyX3_ok nmX3 rfl hn rfl (ty := tyX3 8) (tyX3_ok 8 (by decide)) rfl rfl (Nat.le_of_ble_eq_true rfl) dX3_init_65 ?_
  refine m_aload_n (pc := 68) a 0 dX3_init_68 rfl rfl ?_
  refine m_bipush (pc := 69) a dX3_init_69 (by decide) ?_
  refine m_newI (pc := 71) a (n := 60) rfl (by decide) w4 (Nat.le_of_ble_eq_true rfl) (Nat.le_of_ble_eq_true rfl) dX3_init_71 (fun q9 => ?_)
  refine m_putF (pc := 73) a 9 hp vc3 w6 w14 (by decide) tyX3 tyX3_ok nmX3 rfl hn rfl (ty := tyX3 9) (tyX3_ok 9 (by decide)) rfl rfl (Nat.le_of_ble_eq_true rfl) dX3_init_73 ?_
  refine m_aload_n (pc := 76) a 0 dX3_init_76 rfl rfl ?_
  refine m_iconst (pc := 77) a dX3_init_77 ?_
  refine m_newI (pc := 78) a (n := 5) rfl (by decide) w4 (Nat.le_of_ble_eq_true rfl) (Nat.le_of_ble_eq_true rfl) dX3_init_78 (fun q10 => ?_)
  refine m_putF (pc := 80) a 10 hp vc3 w6 w15 (by decide) tyX3 tyX3_ok nmX3 rfl hn rfl (ty := tyX3 10) (tyX3_ok 10 (by decide)) rfl rfl (Nat.le_of_ble_eq_true rfl) dX3_init_80 ?_
  refine m_aload_n (pc := 83) a 0 dX3_init_83 rfl rfl ?_
  refine m_iconst (pc := 84) a dX3_init_84 ?_
  refine m_newI (pc := 85) a (n := 5) rfl (by decide) w4 (Nat.le_of_ble_eq_true rfl) (Nat.le_of_ble_eq_true rfl) dX3_init_85 (fun q11 => ?_)
  refine m_putF (pc := 87) a 11 hp vc3 w6 w16 (by decide) tyX3 tyX3_ok nmX3 rfl hn rfl (ty := tyX3 11) (tyX3_ok 11 (by decide)) rfl rfl (Nat.le_of_ble_eq_true rfl) dX3_init_87 ?_
  refine m_aload_n (pc := 90) a 0 dX3_init_90 rfl rfl ?_
  refine m_iconst (pc := 91) a dX3_init_91 ?_
  refine m_newI (pc := 92) a (n := 4) rfl (by decide) w4 (Nat.le_of_ble_eq_true rfl) (Nat.le_of_ble_eq_true rfl) dX3_init_92 (fun q12 => ?_)
  refine m_putF (pc := 94) a 12 hp vc3 w6 w17 (by decide) tyX3 tyX3_ok nmX3 rfl hn rfl (ty := tyX3 12) (tyX3_ok 12 (by decide)) rfl rfl (Nat.le_of_ble_eq_true rfl) dX3_init_94 ?_
  refine m_iconst (pc := 97) a dX3_init_97 ?_
  refine m_istore_n (pc := 98) a (ls1 := [(1, vI 0), (0, Value.ref h)]) dX3_init_98 rfl (by decide) rfl ?_
  refine m_iload_n (pc := 99) a 0 dX3_init_99 rfl rfl ?_
  refine m_bipush (pc := 100) a dX3_init_100 (by decide) ?_
  refine m_geF (pc := 102) a ⟨by decide, by decide⟩ ⟨by decide, by decide⟩ (by decide) dX3_init_102 (tgt := 125) (by decide) ?_
  refine m_aload_n (pc := 105) a 1 dX3_init_105 rfl rfl ?_
  refine m_get (pc := 106) a 6 hp vc3 w6 w11 (by decide) (v := Value.ref q6) rfl dX3_init_106 ?_
  refine m_iload_n (pc := 109) a 0 dX3_init_109 rfl rfl ?_
  refine m_iload_n (pc := 110) a 0 dX3_init_110 rfl rfl ?_
  refine m_iast (pc := 111) a 5 rfl (by decide) (by decide) dX3_init_111 ?_
  refine m_aload_n (pc := 112) a 1 dX3_init_112 rfl rfl ?_
  refine m_get (pc := 113) a 7 hp vc3 w6 w12 (by decide) (v := Value.ref q7) rfl dX3_init_113 ?_
  refine m_iload_n (pc := 116) a 0 dX3_init_116 rfl rfl ?_
  refine m_iconst (pc := 117) a dX3_init_117 ?_
  refine m_iast (pc := 118) a 6 rfl (by decide) (by decide) dX3_init_118 ?_
  refine m_iinc (pc := 119) a (y := 1) (ls1 := [(1, vI 1), (0, Value.ref h)]) 0 dX3_init_119 rfl (by decide) (by decide) rfl ?_
  refine m_goto (pc := 122) a dX3_init_122 (tgt := 99) (by decide) ?_
  refine m_iload_n (pc := 99) a 0 dX3_init_99 rfl rfl ?_
  refine m_bipush (pc := 100) a dX3_init_100 (by decide) ?_
  refine m_geF (pc := 102) a ⟨by decide, by decide⟩ ⟨by decide, by decide⟩ (by decide) dX3_init_102 (tgt := 125) (by decide) ?_
  refine m_aload_n (pc := 105) a 1 dX3_init_105 rfl rfl ?_
  refine m_get (pc := 106) a 6 hp vc3 w6 w11 (by decide) (v := Value.ref q6) rfl dX3_init_106 ?_
  refine m_iload_n (pc := 109) a 0 dX3_init_109 rfl rfl ?_
  refine m_iload_n (pc := 110) a 0 dX3_init_110 rfl rfl ?_
  refine m_iastT (pc := 111) a (Nat.le_of_ble_eq_true rfl) (by decide) (by decide) (by decide) dX3_init_111 ?_
  refine m_aload_n (pc := 112) a 1 dX3_init_112 rfl rfl ?_
  refine m_get (pc := 113) a 7 hp vc3 w6 w12 (by decide) (v := Value.ref q7) rfl dX3_init_113 ?_
  refine m_iload_n (pc := 116) a 0 dX3_init_116 rfl rfl ?_
  refine m_iconst (pc := 117) a dX3_init_117 ?_
  refine m_iastS (pc := 118) a (Nat.le_of_ble_eq_true rfl) (by decide) (by decide) dX3_init_118 ?_
  refine m_iinc (pc := 119) a (y := 2) (ls1 := [(1, vI 2), (0, Value.ref h)]) 0 dX3_init_119 rfl (by decide) (by decide) rfl ?_
  refine m_goto (pc := 122) a dX3_init_122 (tgt := 99) (by decide) ?_
  refine m_iload_n (pc := 99) a 0 dX3_init_99 rfl rfl ?_
  refine m_bipush (pc := 100) a dX3_init_100 (by decide) ?_
  refine m_geF (pc := 102) a ⟨by decide, by decide⟩ ⟨by decide, by decide⟩ (by decide) dX3_init_102 (tgt := 125) (by decide) ?_
  refine m_aload_n (pc := 105) a 1 dX3_init_105 rfl rfl ?_
  refine m_get (pc := 106) a 6 hp vc3 w6 w11 (by decide) (v := Value.ref q6) rfl dX3_init_106 ?_
  refine m_iload_n (pc := 109) a 0 dX3_init_109 rfl rfl ?_
  refine m_iload_n (pc := 110) a 0 dX3_init_110 rfl rfl ?_
  refine m_iastT (pc := 111) a (Nat.le_of_ble_eq_true rfl) (by decide) (by decide) (by decide) dX3_init_111 ?_
  refine m_aload_n (pc := 112) a 1 dX3_init_112 rfl rfl ?_
  refine m_get (pc := 113) a 7 hp vc3 w6 w12 (by decide) (v := Value.ref q7) rfl dX3_init_113 ?_
  refine m_iload_n (pc := 116) a 0 dX3_init_116 rfl rfl ?_
  refine m_iconst (pc := 117) a dX3_init_117 ?_
  refine m_iastS (pc := 118) a (Nat.le_of_ble_eq_true rfl) (by decide) (by decide) dX3_init_118 ?_
  refine m_iinc (pc := 119) a (y := 3) (ls1 := [(1, vI 3), (0, Value.ref h)]) 0 dX3_init_119 rfl (by decide) (by decide) rfl ?_
  refine m_goto (pc := 122) a dX3_init_122 (tgt := 99) (by decide) ?_
  refine m_iload_n (pc := 99) a 0 dX3_init_99 rfl rfl ?_
  refine m_bipush (pc := 100) a dX3_init_100 (by decide) ?_
  refine m_geF (pc := 102) a ⟨by decide, by decide⟩ ⟨by decide, by decide⟩ (by decide) dX3_init_102 (tgt := 125) (by decide) ?_
  refine m_aload_n (pc := 105) a 1 dX3_init_105 rfl rfl ?_
  refine m_get (pc := 106) a 6 hp vc3 w6 w11 (by decide) (v := Value.ref q6) rfl dX3_init_106 ?_
  refine m_iload_n (pc := 109) a 0 dX3_init_109 rfl rfl ?_
  refine m_iload_n (pc := 110) a 0 dX3_init_110 rfl rfl ?_
  refine m_iastT (pc := 111) a (Nat.le_of_ble_eq_true rfl) (by decide) (by decide) (by decide) dX3_init_111 ?_
  refine m_aload_n (pc := 112) a 1 dX3_init_112 rfl rfl ?_
  refine m_get (pc := 113) a 7 hp vc3 w6 w12 (by decide) (v := Value.ref q7) rfl dX3_init_113 ?_
  refine m_iload_n (pc := 116) a 0 dX3_init_116 rfl rfl ?_
  refine m_iconst (pc := 117) a dX3_init_117 ?_
  refine m_iastS (pc := 118) a (Nat.le_of_ble_eq_true rfl) (by decide) (by decide) dX3_init_118 ?_
  refine m_iinc (pc := 119) a (y := 4) (ls1 := [(1, vI 4), (0, Value.ref h)]) 0 dX3_init_119 rfl (by decide) (by decide) rfl ?_
  refine m_goto (pc := 122) a dX3_init_122 (tgt := 99) (by decide) ?_
  refine m_iload_n (pc := 99) a 0 dX3_init_99 rfl rfl ?_
  refine m_bipush (pc := 100) a dX3_init_100 (by decide) ?_
  refine m_geF (pc := 102) a ⟨by decide, by decide⟩ ⟨by decide, by decide⟩ (by decide) dX3_init_102 (tgt := 125) (by decide) ?_
  refine m_aload_n (pc := 105) a 1 dX3_init_105 rfl rfl ?_
  refine m_get (pc := 106) a 6 hp vc3 w6 w11 (by decide) (v := Value.ref q6) rfl dX3_init_106 ?_
  refine m_iload_n (pc := 109) a 0 dX3_init_109 rfl rfl ?_
  refine m_iload_n (pc := 110) a 0 dX3_init_110 rfl rfl ?_
  refine m_iastT (pc := 111) a (Nat.le_of_ble_eq_true rfl) (by decide) (by decide) (by decide) dX3_init_111 ?_
  refine m_aload_n (pc := 112) a 1 dX3_init_112 rfl rfl ?_
  refine m_get (pc := 113) a 7 hp vc3 w6 w12 (by decide) (v := Value.ref q7) rfl dX3_init_113 ?_
  refine m_iload_n (pc := 116) a 0 dX3_init_116 rfl rfl ?_
  refine m_iconst (pc := 117) a dX3_init_117 ?_
  refine m_iastS (pc := 118) a (Nat.le_of_ble_eq_true rfl) (by decide) (by decide) dX3_init_118 ?_
  refine m_iinc (pc := 119) a (y := 5) (ls1 := [(1, vI 5), (0, Value.ref h)]) 0 dX3_init_119 rfl (by decide) (by decide) rfl ?_
  refine m_goto (pc := 122) a dX3_init_122 (tgt := 99) (by decide) ?_
  refine m_iload_n (pc := 99) a 0 dX3_init_99 rfl rfl ?_
  refine m_bipush (pc := 100) a dX3_init_100 (by decide) ?_
  refine m_geF (pc := 102) a ⟨by decide, by decide⟩ ⟨by decide, by decide⟩ (by decide) dX3_init_102 (tgt := 125) (by decide) ?_
  refine m_aload_n (pc := 105) a 1 dX3_init_105 rfl rfl ?_
  refine m_get (pc := 106) a 6 hp vc3 w6 w11 (by decide) (v := Value.ref q6) rfl dX3_init_106 ?_
  refine m_iload_n (pc := 109) a 0 dX3_init_109 rfl rfl ?_
  refine m_iload_n (pc := 110) a 0 dX3_init_110 rfl rfl ?_
  refine m_iastT (pc := 111) a (Nat.le_of_ble_eq_true rfl) (by decide) (by decide) (by decide) dX3_init_111 ?_
  refine m_aload_n (pc := 112) a 1 dX3_init_112 rfl rfl ?_
  refine m_get (pc := 113) a 7 hp vc3 w6 w12 (by decide) (v := Value.ref q7) rfl dX3_init_113 ?_
  refine m_iload_n (pc := 116) a 0 dX3_init_116 rfl rfl ?_
  refine m_iconst (pc := 117) a dX3_init_117 ?_
  refine m_iastS (pc := 118) a (Nat.le_of_ble_eq_true rfl) (by decide) (by decide) dX3_init_118 ?_
  refine m_iinc (pc := 119) a (y := 6) (ls1 := [(1, vI 6), (0, Value.ref h)]) 0 dX3_init_119 rfl (by decide) (by decide) rfl ?_
  refine m_goto (pc := 122) a dX3_init_122 (tgt := 99) (by decide) ?_
  refine m_iload_n (pc := 99) a 0 dX3_init_99 rfl rfl ?_
  refine m_bipush (pc := 100) a dX3_init_100 (by decide) ?_
  refine m_geF (pc := 102) a ⟨by decide, by decide⟩ ⟨by decide, by decide⟩ (by decide) dX3_init_102 (tgt := 125) (by decide) ?_
  refine m_aload_n (pc := 105) a 1 dX3_init_105 rfl rfl ?_
  refine m_get (pc := 106) a 6 hp vc3 w6 w11 (by decide) (v := Value.ref q6) rfl dX3_init_106 ?_
  refine m_iload_n (pc := 109) a 0 dX3_init_109 rfl rfl ?_
  refine m_iload_n (pc := 110) a 0 dX3_init_110 rfl rfl ?_
  refine m_iastT (pc := 111) a (Nat.le_of_ble_eq_true rfl) (by decide) (by decide) (by decide) dX3_init_111 ?_
  refine m_aload_n (pc := 112) a 1 dX3_init_112 rfl rfl ?_
  refine m_get (pc := 113) a 7 hp vc3 w6 w12 (by decide) (v := Value.ref q7) rfl dX3_init_113 ?_
  refine m_iload_n (pc := 116) a 0 dX3_init_116 rfl rfl ?_
  refine m_iconst (pc := 117) a dX3_init_117 ?_
  refine m_iastS (pc := 118) a (Nat.le_of_ble_eq_true rfl) (by decide) (by decide) dX3_init_118 ?_
  refine m_iinc (pc := 119) a (y := 7) (ls1 := [(1, vI 7), (0, Value.ref h)]) 0 dX3_init_119 rfl (by decide) (by decide) rfl ?_
  refine m_goto (pc := 122) a dX3_init_122 (tgt := 99) (by decide) ?_
  refine m_iload_n (pc := 99) a 0 dX3_init_99 rfl rfl ?_
  refine m_bipush (pc := 100) a dX3_init_100 (by decide) ?_
  refine m_geF (pc := 102) a ⟨by decide, by decide⟩ ⟨by decide, by decide⟩ (by decide) dX3_init_102 (tgt := 125) (by decide) ?_
  refine m_aload_n (pc := 105) a 1 dX3_init_105 rfl rfl ?_
  refine m_get (pc := 106) a 6 hp vc3 w6 w11 (by decide) (v := Value.ref q6) rfl dX3_init_106 ?_
  refine m_iload_n (pc := 109) a 0 dX3_init_109 rfl rfl ?_
  refine m_iload_n (pc := 110) a 0 dX3_init_110 rfl rfl ?_
  refine m_iastT (pc := 111) a (Nat.le_of_ble_eq_true rfl) (by decide) (by decide) (by decide) dX3_init_111 ?_
  refine m_aload_n (pc := 112) a 1 dX3_init_112 rfl rfl ?_
  refine m_get (pc := 113) a 7 hp vc3 w6 w12 (by decide) (v := Value.ref q7) rfl dX3_init_113 ?_
  refine m_iload_n (pc := 116) a 0 dX3_init_116 rfl rfl ?_
  refine m_iconst (pc := 117) a dX3_init_117 ?_
  refine m_iastS (pc := 118) a (Nat.le_of_ble_eq_true rfl) (by decide) (by decide) dX3_init_118 ?_
  refine m_iinc (pc := 119) a (y := 8) (ls1 := [(1, vI 8), (0, Value.ref h)]) 0 dX3_init_119 rfl (by decide) (by decide) rfl ?_
  refine m_goto (pc := 122) a dX3_init_122 (tgt := 99) (by decide) ?_
  refine m_iload_n (pc := 99) a 0 dX3_init_99 rfl rfl ?_
  refine m_bipush (pc := 100) a dX3_init_100 (by decide) ?_
  refine m_geF (pc := 102) a ⟨by decide, by decide⟩ ⟨by decide, by decide⟩ (by decide) dX3_init_102 (tgt := 125) (by decide) ?_
  refine m_aload_n (pc := 105) a 1 dX3_init_105 rfl rfl ?_
  refine m_get (pc := 106) a 6 hp vc3 w6 w11 (by decide) (v := Value.ref q6) rfl dX3_init_106 ?_
  refine m_iload_n (pc := 109) a 0 dX3_init_109 rfl rfl ?_
  refine m_iload_n (pc := 110) a 0 dX3_init_110 rfl rfl ?_
  refine m_iastT (pc := 111) a (Nat.le_of_ble_eq_true rfl) (by decide) (by decide) (by decide) dX3_init_111 ?_
  refine m_aload_n (pc := 112) a 1 dX3_init_112 rfl rfl ?_
  refine m_get (pc := 113) a 7 hp vc3 w6 w12 (by decide) (v := Value.ref q7) rfl dX3_init_113 ?_
  refine m_iload_n (pc := 116) a 0 dX3_init_116 rfl rfl ?_
  refine m_iconst (pc := 117) a dX3_init_117 ?_
  refine m_iastS (pc := 118) a (Nat.le_of_ble_eq_true rfl) (by decide) (by decide) dX3_init_118 ?_
  refine m_iinc (pc := 119) a (y := 9) (ls1 := [(1, vI 9), (0, Value.ref h)]) 0 dX3_init_119 rfl (by decide) (by decide) rfl ?_
  refine m_goto (pc := 122) a dX3_init_122 (tgt := 99) (by decide) ?_
  refine m_iload_n (pc := 99) a 0 dX3_init_99 rfl rfl ?_
  refine m_bipush (pc := 100) a dX3_init_100 (by decide) ?_
  refine m_geF (pc := 102) a ⟨by decide, by decide⟩ ⟨by decide, by decide⟩ (by decide) dX3_init_102 (tgt := 125) (by decide) ?_
  refine m_aload_n (pc := 105) a 1 dX3_init_105 rfl rfl ?_
  refine m_get (pc := 106) a 6 hp vc3 w6 w11 (by decide) (v := Value.ref q6) rfl dX3_init_106 ?_
  refine m_iload_n (pc := 109) a 0 dX3_init_109 rfl rfl ?_
  refine m_iload_n (pc := 110) a 0 dX3_init_110 rfl rfl ?_
  refine m_iastT (pc := 111) a (Nat.le_of_ble_eq_true rfl) (by decide) (by decide) (by decide) dX3_init_111 ?_
  refine m_aload_n (pc := 112) a 1 dX3_init_112 rfl rfl ?_
  refine m_get (pc := 113) a 7 hp vc3 w6 w12 (by decide) (v := Value.ref q7) rfl dX3_init_113 ?_
  refine m_iload_n (pc := 116) a 0 dX3_init_116 rfl rfl ?_
  refine m_iconst (pc := 117) a dX3_init_117 ?_
  refine m_iastS (pc := 118) a (Nat.le_of_ble_eq_true rfl) (by decide) (by decide) dX3_init_118 ?_
  refine m_iinc (pc := 119) a (y := 10) (ls1 := [(1, vI 10), (0, Value.ref h)]) 0 dX3_init_119 rfl (by decide) (by decide) rfl ?_
  refine m_goto (pc := 122) a dX3_init_122 (tgt := 99) (by decide) ?_
  refine m_iload_n (pc := 99) a 0 dX3_init_99 rfl rfl ?_
  refine m_bipush (pc := 100) a dX3_init_100 (by decide) ?_
  refine m_geF (pc := 102) a ⟨by decide, by decide⟩ ⟨by decide, by decide⟩ (by decide) dX3_init_102 (tgt := 125) (by decide) ?_
  refine m_aload_n (pc := 105) a 1 dX3_init_105 rfl rfl ?_
  refine m_get (pc := 106) a 6 hp vc3 w6 w11 (by decide) (v := Value.ref q6) rfl dX3_init_106 ?_
  refine m_iload_n (pc := 109) a 0 dX3_init_109 rfl rfl ?_
  refine m_iload_n (pc := 110) a 0 dX3_init_110 rfl rfl ?_
  refine m_iastT (pc := 111) a (Nat.le_of_ble_eq_true rfl) (by decide) (by decide) (by decide) dX3_init_111 ?_
  refine m_aload_n (pc := 112) a 1 dX3_init_112 rfl rfl ?_
  refine m_get (pc := 113) a 7 hp vc3 w6 w12 (by decide) (v := Value.ref q7) rfl dX3_init_113 ?_
  refine m_iload_n (pc := 116) a 0 dX3_init_116 rfl rfl ?_
  refine m_iconst (pc := 117) a dX3_init_117 ?_
  refine m_iastS (pc := 118) a (Nat.le_of_ble_eq_true rfl) (by decide) (by decide) dX3_init_118 ?_
  refine m_iinc (pc := 119) a (y := 11) (ls1 := [(1, vI 11), (0, Value.ref h)]) 0 dX3_init_119 rfl (by decide) (by decide) rfl ?_
  refine m_goto (pc := 122) a dX3_init_122 (tgt := 99) (by decide) ?_
  refine m_iload_n (pc := 99) a 0 dX3_init_99 rfl rfl ?_
  refine m_bipush (pc := 100) a dX3_init_100 (by decide) ?_
  refine m_geF (pc := 102) a ⟨by decide, by decide⟩ ⟨by decide, by decide⟩ (by decide) dX3_init_102 (tgt := 125) (by decide) ?_
  refine m_aload_n (pc := 105) a 1 dX3_init_105 rfl rfl ?_
  refine m_get (pc := 106) a 6 hp vc3 w6 w11 (by decide) (v := Value.ref q6) rfl dX3_init_106 ?_
  refine m_iload_n (pc := 109) a 0 dX3_init_109 rfl rfl ?_
  refine m_iload_n (pc := 110) a 0 dX3_init_110 rfl rfl ?_
  refine m_iastT (pc := 111) a (Nat.le_of_ble_eq_true rfl) (by decide) (by decide) (by decide) dX3_init_111 ?_
  refine m_aload_n (pc := 112) a 1 dX3_init_112 rfl rfl ?_
  refine m_get (pc := 113) a 7 hp vc3 w6 w12 (by decide) (v := Value.ref q7) rfl dX3_init_113 ?_
  refine m_iload_n (pc := 116) a 0 dX3_init_116 rfl rfl ?_
  refine m_iconst (pc := 117) a dX3_init_117 ?_
  refine m_iastS (pc := 118) a (Nat.le_of_ble_eq_true rfl) (by decide) (by decide) dX3_init_118 ?_
  refine m_iinc (pc := 119) a (y := 12) (ls1 := [(1, vI 12), (0, Value.ref h)]) 0 dX3_init_119 rfl (by decide) (by decide) rfl ?_
  refine m_goto (pc := 122) a dX3_init_122 (tgt := 99) (by decide) ?_
  refine m_iload_n (pc := 99) a 0 dX3_init_99 rfl rfl ?_
  refine m_bipush (pc := 100) a dX3_init_100 (by decide) ?_
  refine m_geT (pc := 102) a ⟨by decide, by decide⟩ ⟨by decide, by decide⟩ (by decide) dX3_init_102 (tgt := 125) (by decide) ?_
  refine m_aload_n (pc := 125) a 1 dX3_init_125 rfl rfl ?_
  refine m_get (pc := 126) a 11 hp vc3 w6 w16 (by decide) (v := Value.ref q11) rfl dX3_init_126 ?_
  refine m_iconst (pc := 129) a dX3_init_129 ?_
  refine m_bipush (pc := 130) a dX3_init_130 (by decide) ?_
  refine m_iast (pc := 132) a 10 rfl (by decide) (by decide) dX3_init_132 ?_
  refine m_aload_n (pc := 133) a 1 dX3_init_133 rfl rfl ?_
  refine m_get (pc := 134) a 11 hp vc3 w6 w16 (by decide) (v := Value.ref q11) rfl dX3_init_134 ?_
  refine m_iconst (pc := 137) a dX3_init_137 ?_
  refine m_bipush (pc := 138) a dX3_init_138 (by decide) ?_
  refine m_iastS (pc := 140) a (Nat.le_of_ble_eq_true rfl) (by decide) (by decide) dX3_init_140 ?_
  refine m_aload_n (pc := 141) a 1 dX3_init_141 rfl rfl ?_
  refine m_get (pc := 142) a 11 hp vc3 w6 w16 (by decide) (v := Value.ref q11) rfl dX3_init_142 ?_
  refine m_iconst (pc := 145) a dX3_init_145 ?_
  refine m_iconst (pc := 146) a dX3_init_146 ?_
  refine m_iastS (pc := 147) a (Nat.le_of_ble_eq_true rfl) (by decide) (by decide) dX3_init_147 ?_
  refine m_aload_n (pc := 148) a 1 dX3_init_148 rfl rfl ?_
  refine m_get (pc := 149) a 12 hp vc3 w6 w17 (by decide) (v := Value.ref q12) rfl dX3_init_149 ?_
  refine m_iconst (pc := 152) a dX3_init_152 ?_
  refine m_iconst (pc := 153) a dX3_init_153 ?_
  refine m_iast (pc := 154) a 11 rfl (by decide) (by decide) dX3_init_154 ?_
  refine m_aload_n (pc := 155) a 1 dX3_init_155 rfl rfl ?_
  refine m_get (pc := 156) a 12 hp vc3 w6 w17 (by decide) (v := Value.ref q12) rfl dX3_init_156 ?_
  refine m_iconst (pc := 159) a dX3_init_159 ?_
  refine m_iconst (pc := 160) a dX3_init_160 ?_
  refine m_iastS (pc := 161) a (Nat.le_of_ble_eq_true rfl) (by decide) (by decide) dX3_init_161 ?_
  refine m_aload_n (pc := 162) a 1 dX3_init_162 rfl rfl ?_
  refine m_get (pc := 163) a 12 hp vc3 w6 w17 (by decide) (v := Value.ref q12) rfl dX3_init_163 ?_
  refine m_iconst (pc := 166) a dX3_init_166 ?_
  refine m_bipush (pc := 167) a dX3_init_167 (by decide) ?_
  refine m_iastS (pc := 169) a (Nat.le_of_ble_eq_true rfl) (by decide) (by decide) dX3_init_169 ?_
  refine m_aload_n (pc := 170) a 1 dX3_init_170 rfl rfl ?_
  refine m_get (pc := 171) a 12 hp vc3 w6 w17 (by decide) (v := Value.ref q12) rfl dX3_init_171 ?_
  refine m_iconst (pc := 174) a dX3_init_174 ?_
  refine m_iconst (pc := 175) a dX3_init_175 ?_
  refine m_iastS (pc := 176) a (Nat.le_of_ble_eq_true rfl) (by decide) (by decide) dX3_init_176 ?_
  exact m_ret (pc := 177) a (fun k => ([h, q1, q2, q3, q4, q5, q6, q7, q8, q9, q10, q11, q12] : List Nat).getD k 0) hr (Nat.le_of_ble_eq_true rfl) (Nat.le_of_ble_eq_true rfl) rfl dX3_init_177

set_option maxRecDepth 100000 in
set_option maxHeartbeats 4000000 in
theorem c_X1_init {l : Launch} {D : va_G} {X : XI} (hl0 : l.stackTraces = false) {ws : va_W} {pp h : Nat} (h0 : ws[pp]? = some (h, .inr (1, [vI 0, Value.null, Value.null, vI 0, vI 0, Value.null, Value.null, Value.null, Value.null, vI 0, vI 0, vI 0]))) (sz : Nat) : Met l yX1_init (WW (.code yX1_init cX1_init 1 none)) { frames := 2, cells := 32, slots := 1698, locals := 32 } (va_Pc [.ref h] (WC D X ws sz)) (QC D (va_A ws sz) (fun u => OW ws pp h 1 (legF (uu h u) 0) (legA X (uu h u) 0))) 32 1698 (va_A ws sz) := by
  have hp : pp < ws.length := (List.getElem?_eq_some_iff.mp h0).1
  refine m_start (own := RX1) (cc := cX1_init) (maxL := 1) (by decide) rfl rfl rfl (Nat.le_of_ble_eq_true rfl) ?_
  intro p e s m below meth c a hr hn hsz
  have hts := a.1.2.2.2.2
  have w1 := hts (Cond.methodLink RX1 3 objectInit) (List.mem_cons_of_mem _ (GL_2 _ (by decide +kernel)))
  have w2 := hts (Cond.instanceMethod objectInit) (List.mem_cons_of_mem _ (GL_1 _ (by decide +kernel)))
  have w3 := hts (Cond.code objectInit ⟨#[0xb1]⟩ 1 none) (List.mem_cons_of_mem _ (GL_1 _ (by decide +kernel)))
  have w4 := hts (Cond.arrayClass .boolean) (List.mem_cons_of_mem _ (GL_3 _ (by decide +kernel)))
  have w5 := hts (Cond.fieldLink RX1 9 "SightLegend$Legend" "shown" "[Z") (List.mem_cons_of_mem _ (GL_3 _ (by decide +kernel)))
  have w6 : ∀ w ∈ u_ws RX1 TX1 12, w ∈ WW (.code yX1_init cX1_init 1 none) := fun w h => List.mem_cons_of_mem _ (inlX1 w h)
  have w7 := hts (Cond.fieldLink RX1 15 "SightLegend$Legend" "inSight" "[Z") (List.mem_cons_of_mem _ (GL_3 _ (by decide +kernel)))
  have w8 : ∀ w ∈ u_ws RX4 TX4 6, w ∈ WW (.code yX1_init cX1_init 1 none) := fun w h => List.mem_cons_of_mem _ (inlX4 w h)
  have w9 := hts (Cond.classLink RX1 18 RX4) (List.mem_cons_of_mem _ (GL_3 _ (by decide +kernel)))
  have w10 := hts (Cond.instantiable RX4 6) (List.mem_cons_of_mem _ (GL_3 _ (by decide +kernel)))
  have w11 := hts (Cond.initialized RX4) (List.mem_cons_of_mem _ (GL_3 _ (by decide +kernel)))
  have w12 := hts (Cond.instanceMethod yX4_init) (List.mem_cons_of_mem _ (GL_3 _ (by decide +kernel)))
  have w13 := hts (Cond.fieldLink RX1 21 "SightLegend$Legend" "ranges" "LSightLegend$Ranges;") (List.mem_cons_of_mem _ (GL_3 _ (by decide +kernel)))
  have w14 : ∀ w ∈ u_ws RX2 TX2 14, w ∈ WW (.code yX1_init cX1_init 1 none) := fun w h => List.mem_cons_of_mem _ (inlX2 w h)
  have w15 := hts (Cond.classLink RX1 25 RX2) (List.mem_cons_of_mem _ (GL_3 _ (by decide +kernel)))
  have w16 := hts (Cond.instantiable RX2 14) (List.mem_cons_of_mem _ (GL_3 _ (by decide +kernel)))
  have w17 := hts (Cond.initialized RX2) (List.mem_cons_of_mem _ (GL_3 _ (by decide +kernel)))
  have w18 := hts (Cond.instanceMethod yX2_init) (List.mem_cons_of_mem _ (GL_4 _ (by decide +kernel)))
  have w19 := hts (Cond.fieldLink RX1 28 "SightLegend$Legend" "now" "LSightLegend$Lines;") (List.mem_cons_of_mem _ (GL_3 _ (by decide +kernel)))
  have w20 := hts (Cond.fieldLink RX1 32 "SightLegend$Legend" "before" "LSightLegend$Lines;") (List.mem_cons_of_mem _ (GL_3 _ (by decide +kernel)))
  have w21 : ∀ w ∈ u_ws RX0 TX0 6, w ∈ WW (.code yX1_init cX1_init 1 none) := fun w h => List.mem_cons_of_mem _ (inlX0 w h)
  have w22 := hts (Cond.classLink RX1 35 RX0) (List.mem_cons_of_mem _ (GL_3 _ (by decide +kernel)))
  have w23 := hts (Cond.instantiable RX0 6) (List.mem_cons_of_mem _ (GL_3 _ (by decide +kernel)))
  have w24 := hts (Cond.initialized RX0) (List.mem_cons_of_mem _ (GL_3 _ (by decide +kernel)))
  have w25 := hts (Cond.instanceMethod yX0_init) (List.mem_cons_of_mem _ (GL_4 _ (by decide +kernel)))
  have w26 := hts (Cond.fieldLink RX1 38 "SightLegend$Legend" "box" "LSightLegend$Box;") (List.mem_cons_of_mem _ (GL_3 _ (by decide +kernel)))
  refine m_eq (ws1 := OW ws pp h 1 [vI 0, Value.null, Value.null, vI 0, vI 0, Value.null, Value.null, Value.null, Value.null, vI 0, vI 0, vI 0] []) (ow_init h0) ?_
  refine m_aload_n (pc := 0) a 0 dX1_init_0 rfl rfl ?_
  refine m_obj (pc := 1) a w1 w2 w3 (Nat.le_of_ble_eq_true rfl) (Nat.le_of_ble_eq_true rfl) dX1_init_1 ?_
  refine m_aload_n (pc := 4) a 0 dX1_init_4 rfl rfl ?_
  refine m_bipush (pc := 5) a dX1_init_5 (by decide) ?_
  refine m_newZ (pc := 7) a (n := 40) rfl (by decide) w4 (Nat.le_of_ble_eq_true rfl) (Nat.le_of_ble_eq_true rfl) dX1_init_7 (fun q1 => ?_)
  refine m_putF (pc := 9) a 1 hp vc1 w6 w5 (by decide) tyX1 tyX1_ok nmX1 rfl hn rfl (ty := tyX1 1) (tyX1_ok 1 (by decide)) rfl rfl (Nat.le_of_ble_eq_true rfl) dX1_init_9 ?_
  refine m_aload_n (pc := 12) a 0 dX1_init_12 rfl rfl ?_
  refine m_bipush (pc := 13) a dX1_init_13 (by decide) ?_
  refine m_newZ (pc := 15) a (n := 40) rfl (by decide) w4 (Nat.le_of_ble_eq_true rfl) (Nat.le_of_ble_eq_true rfl) dX1_init_15 (fun q2 => ?_)
  refine m_putF (pc := 17) a 2 hp vc1 w6 w7 (by decide) tyX1 tyX1_ok nmX1 rfl hn rfl (ty := tyX1 2) (tyX1_ok 2 (by decide)) rfl rfl (Nat.le_of_ble_eq_true rfl) dX1_init_17 ?_
  refine m_aload_n (pc := 20) a 0 dX1_init_20 rfl rfl ?_
  refine m_new (pc := 21) a w8 tyX4 tyX4_ok w9 w10 w11 vc4 (gs := [Value.null, Value.null, Value.null, Value.null, Value.null, Value.null]) (by decide +kernel) (Nat.le_of_ble_eq_true rfl) (Nat.le_of_ble_eq_true rfl) dX1_init_21 (fun q3 => ?_)
  refine m_dup (pc := 24) a rfl dX1_init_24 ?_
  refine m_callN (pc := 25) a (n := 2) (fun sz => c_X4_init hl0 (pp := ws.length + 2) (h := q3) (ow_new.trans rfl) sz) ⟨va_cnB 0 hts (gl_W (GL_3 _ (by decide +kernel))) rfl rfl rfl a.2.2.2.2.2.2.2.1 w11 (by decide +kernel) ⟨Nat.le_of_ble_eq_true rfl, Nat.le_of_ble_eq_true rfl⟩, rfl, w12⟩ (Nat.le_of_ble_eq_true rfl) ⟨Nat.le_of_ble_eq_true rfl, Nat.le_of_ble_eq_true rfl⟩ dX1_init_25 (fun u4 => ?_)
  refine m_putF (pc := 28) a 5 hp vc1 w6 w13 (by decide) tyX1 tyX1_ok nmX1 rfl hn rfl (ty := tyX1 5) (tyX1_ok 5 (by decide)) rfl rfl (Nat.le_of_ble_eq_true rfl) dX1_init_28 ?_
  refine m_aload_n (pc := 31) a 0 dX1_init_31 rfl rfl ?_
  refine m_new (pc := 32) a w14 tyX2 tyX2_ok w15 w16 w17 vc2 (gs := [vI 0, Value.null, Value.null, Value.null, Value.null, Value.null, Value.null, Value.null, Value.null, vI 0, vI 0, Value.null, vI 0, Value.null]) (by decide +kernel) (Nat.le_of_ble_eq_true rfl) (Nat.le_of_ble_eq_true rfl) dX1_init_32 (fun q5 => ?_)
  refine m_dup (pc := 35) a rfl dX1_init_35 ?_
  refine m_callN (pc := 36) a (n := 9) (fun sz => c_X2_init hl0 (pp := ws.length + 9) (h := q5) (ow_new.trans rfl) sz) ⟨va_cnB 0 hts (gl_W (GL_4 _ (by decide +kernel))) rfl rfl rfl a.2.2.2.2.2.2.2.2.1 w17 (by decide +kernel) ⟨Nat.le_of_ble_eq_true rfl, Nat.le_of_ble_eq_true rfl⟩, rfl, w18⟩ (Nat.le_of_ble_eq_true rfl) ⟨Nat.le_of_ble_eq_true rfl, Nat.le_of_ble_eq_true rfl⟩ dX1_init_36 (fun u6 => ?_)
  refine m_putF (pc := 39) a 6 hp vc1 w6 w19 (by decide) tyX1 tyX1_ok nmX1 rfl hn rfl (ty := tyX1 6) (tyX1_ok 6 (by decide)) rfl rfl (Nat.le_of_ble_eq_true rfl) dX1_init_39 ?_
  refine m_aload_n (pc := 42) a 0 dX1_init_42 rfl rfl ?_
  refine m_new (pc := 43) a w14 tyX2 tyX2_ok w15 w16 w17 vc2 (gs := [vI 0, Value.null, Value.null, Value.null, Value.null, Value.null, Value.null, Value.null, Value.null, vI 0, vI 0, Value.null, vI 0, Value.null]) (by decide +kernel) (Nat.le_of_ble_eq_true rfl) (Nat.le_of_ble_eq_true rfl) dX1_init_43 (fun q7 => ?_)
  refine m_dup (pc := 46) a rfl dX1_init_46 ?_
  refine m_callN (pc := 47) a (n := 20) (fun sz => c_X2_init hl0 (pp := ws.length + 20) (h := q7) (ow_new.trans rfl) sz) ⟨va_cnB 0 hts (gl_W (GL_4 _ (by decide +kernel))) rfl rfl rfl a.2.2.2.2.2.2.2.2.1 w17 (by decide +kernel) ⟨Nat.le_of_ble_eq_true rfl, Nat.le_of_ble_eq_true rfl⟩, rfl, w18⟩ (Nat.le_of_ble_eq_true rfl) ⟨Nat.le_of_ble_eq_true rfl, Nat.le_of_ble_eq_true rfl⟩ dX1_init_47 (fun u8 => ?_)
  refine m_putF (pc := 50) a 7 hp vc1 w6 w20 (by decide) tyX1 tyX1_ok nmX1 rfl hn rfl (ty := tyX1 7) (tyX1_ok 7 (by decide)) rfl rfl (Nat.le_of_ble_eq_true rfl) dX1_init_50 ?_
  refine m_aload_n (pc := 53) a 0 dX1_init_53 rfl rfl ?_
  refine m_new (pc := 54) a w21 tyX0 tyX0_ok w22 w23 w24 vc0 (gs := [vI 0, vI 0, vI 0, vI 0, vI 0, vI 0]) (by decide +kernel) (Nat.le_of_ble_eq_true rfl) (Nat.le_of_ble_eq_true rfl) dX1_init_54 (fun q9 => ?_)
  refine m_dup (pc := 57) a rfl dX1_init_57 ?_
  refine m_callN (pc := 58) a (n := 31) (fun sz => c_X0_init hl0 (pp := ws.length + 31) (h := q9) (ow_new.trans rfl) sz) ⟨va_cnB 0 hts (gl_W (GL_4 _ (by decide +kernel))) rfl rfl rfl a.2.2.2.2.2.2.2.2.2 w24 (by decide +kernel) ⟨Nat.le_of_ble_eq_true rfl, Nat.le_of_ble_eq_true rfl⟩, rfl, w25⟩ (Nat.le_of_ble_eq_true rfl) ⟨Nat.le_of_ble_eq_true rfl, Nat.le_of_ble_eq_true rfl⟩ dX1_init_58 (fun u10 => ?_)
  refine m_putF (pc := 61) a 8 hp vc1 w6 w26 (by decide) tyX1 tyX1_ok nmX1 rfl hn rfl (ty := tyX1 8) (tyX1_ok 8 (by decide)) rfl rfl (Nat.le_of_ble_eq_true rfl) dX1_init_61 ?_
  exact m_ret (pc := 64) a (fun k => ([h, q1, q2, q3, (u4 1), (u4 2), (u4 3), (u4 4), (u4 5), (u4 6), q5, (u6 1), (u6 2), (u6 3), (u6 4), (u6 5), (u6 6), (u6 7), (u6 8), (u6 9), (u6 10), q7, (u8 1), (u8 2), (u8 3), (u8 4), (u8 5), (u8 6), (u8 7), (u8 8), (u8 9), (u8 10), q9] : List Nat).getD k 0) hr (Nat.le_of_ble_eq_true rfl) (Nat.le_of_ble_eq_true rfl) rfl dX1_init_64

set_option maxRecDepth 100000 in
set_option maxHeartbeats 4000000 in
theorem c_X5_init {l : Launch} {D : va_G} {X : XI} (hl0 : l.stackTraces = false) {ws : va_W} {pp h : Nat} (h0 : ws[pp]? = some (h, .inr (5, [Value.null, vI 0, Value.null, vI 0, vI 0]))) (sz : Nat) : Met l yX5_init (WW (.code yX5_init cX5_init 1 none)) { frames := 2, cells := 14, slots := 483, locals := 33 } (va_Pc [.ref h] (WC D X ws sz)) (QC D (va_A ws sz) (fun u => OW ws pp h 5 (txtF (uu h u) 0) (txtA X (uu h u) 0))) 14 483 (va_A ws sz) := by
  have hp : pp < ws.length := (List.getElem?_eq_some_iff.mp h0).1
  refine m_start (own := RX5) (cc := cX5_init) (maxL := 1) (by decide) rfl rfl rfl (Nat.le_of_ble_eq_true rfl) ?_
  intro p e s m below meth c a hr hn hsz
  have hts := a.1.2.2.2.2
  have w1 := hts (Cond.methodLink RX5 3 objectInit) (List.mem_cons_of_mem _ (GL_4 _ (by decide +kernel)))
  have w2 := hts (Cond.instanceMethod objectInit) (List.mem_cons_of_mem _ (GL_1 _ (by decide +kernel)))
  have w3 := hts (Cond.code objectInit ⟨#[0xb1]⟩ 1 none) (List.mem_cons_of_mem _ (GL_1 _ (by decide +kernel)))
  have w4 := hts (Cond.arrayClass .int) (List.mem_cons_of_mem _ (GL_2 _ (by decide +kernel)))
  have w5 := hts (Cond.fieldLink RX5 9 "SightLegend$SignText" "bytes" "[I") (List.mem_cons_of_mem _ (GL_4 _ (by decide +kernel)))
  have w6 : ∀ w ∈ u_ws RX5 TX5 5, w ∈ WW (.code yX5_init cX5_init 1 none) := fun w h => List.mem_cons_of_mem _ (inlX5 w h)
  have w7 : ∀ w ∈ u_ws RX3 TX3 13, w ∈ WW (.code yX5_init cX5_init 1 none) := fun w h => List.mem_cons_of_mem _ (inlX3 w h)
  have w8 := hts (Cond.classLink RX5 15 RX3) (List.mem_cons_of_mem _ (GL_4 _ (by decide +kernel)))
  have w9 := hts (Cond.instantiable RX3 13) (List.mem_cons_of_mem _ (GL_1 _ (by decide +kernel)))
  have w10 := hts (Cond.initialized RX3) (List.mem_cons_of_mem _ (GL_1 _ (by decide +kernel)))
  have w11 := hts (Cond.methodLink RX5 17 yX3_init) (List.mem_cons_of_mem _ (GL_4 _ (by decide +kernel)))
  have w12 := hts (Cond.instanceMethod yX3_init) (List.mem_cons_of_mem _ (GL_2 _ (by decide +kernel)))
  have w13 := hts (Cond.fieldLink RX5 18 "SightLegend$SignText" "signs" "LSightLegend$MapState;") (List.mem_cons_of_mem _ (GL_4 _ (by decide +kernel)))
  refine m_eq (ws1 := OW ws pp h 5 [Value.null, vI 0, Value.null, vI 0, vI 0] []) (ow_init h0) ?_
  refine m_aload_n (pc := 0) a 0 dX5_init_0 rfl rfl ?_
  refine m_obj (pc := 1) a w1 w2 w3 (Nat.le_of_ble_eq_true rfl) (Nat.le_of_ble_eq_true rfl) dX5_init_1 ?_
  refine m_aload_n (pc := 4) a 0 dX5_init_4 rfl rfl ?_
  refine m_sipush (pc := 5) a dX5_init_5 (by decide) ?_
  refine m_newI (pc := 8) a (n := 160) rfl (by decide) w4 (Nat.le_of_ble_eq_true rfl) (Nat.le_of_ble_eq_true rfl) dX5_init_8 (fun q1 => ?_)
  refine m_putF (pc := 10) a 0 hp vc5 w6 w5 (by decide) tyX5 tyX5_ok nmX5 rfl hn rfl (ty := tyX5 0) (tyX5_ok 0 (by decide)) rfl rfl (Nat.le_of_ble_eq_true rfl) dX5_init_10 ?_
  refine m_aload_n (pc := 13) a 0 dX5_init_13 rfl rfl ?_
  refine m_new (pc := 14) a w7 tyX3 tyX3_ok w8 w9 w10 vc3 (gs := [Value.null, Value.null, Value.null, Value.null, Value.null, vI 0, Value.null, Value.null, Value.null, Value.null, Value.null, Value.null, Value.null]) (by decide +kernel) (Nat.le_of_ble_eq_true rfl) (Nat.le_of_ble_eq_true rfl) dX5_init_14 (fun q2 => ?_)
  refine m_dup (pc := 17) a rfl dX5_init_17 ?_
  refine m_call (pc := 18) a (n := 1) (fun sz => c_X3_init hl0 (pp := ws.length + 1) (h := q2) (ow_new.trans rfl) sz) (cwI 0 hts (gl_W (GL_2 _ (by decide +kernel))) rfl rfl rfl w10 w11 w12 rfl (by decide +kernel) ⟨Nat.le_of_ble_eq_true rfl, Nat.le_of_ble_eq_true rfl⟩) (Nat.le_of_ble_eq_true rfl) ⟨Nat.le_of_ble_eq_true rfl, Nat.le_of_ble_eq_true rfl⟩ dX5_init_18 (fun u3 => ?_)
  refine m_putF (pc := 21) a 2 hp vc5 w6 w13 (by decide) tyX5 tyX5_ok nmX5 rfl hn rfl (ty := tyX5 2) (tyX5_ok 2 (by decide)) rfl rfl (Nat.le_of_ble_eq_true rfl) dX5_init_21 ?_
  exact m_ret (pc := 24) a (fun k => ([h, q1, q2, (u3 1), (u3 2), (u3 3), (u3 4), (u3 5), (u3 6), (u3 7), (u3 8), (u3 9), (u3 10), (u3 11), (u3 12)] : List Nat).getD k 0) hr (Nat.le_of_ble_eq_true rfl) (Nat.le_of_ble_eq_true rfl) rfl dX5_init_24

set_option maxRecDepth 100000 in
set_option maxHeartbeats 4000000 in
theorem c_X6_init {l : Launch} {D : va_G} {X : XI} (hl0 : l.stackTraces = false) {ws : va_W} {pp h : Nat} (h0 : ws[pp]? = some (h, .inr (6, [Value.null, Value.null, Value.null, Value.null, Value.null, Value.null, vI 0, vI 0]))) (sz : Nat) : Met l yX6_init (WW (.code yX6_init cX6_init 2 none)) { frames := 3, cells := 160, slots := 5850, locals := 53 } (va_Pc [.ref h] (WC D X ws sz)) (QC D (va_A ws sz) (fun u => OW ws pp h 6 (slF (uu h u) 0) (slA X (uu h u) 0))) 160 5850 (va_A ws sz) := by
  have hp : pp < ws.length := (List.getElem?_eq_some_iff.mp h0).1
  refine m_start (own := RX6) (cc := cX6_init) (maxL := 2) (by decide) rfl rfl rfl (Nat.le_of_ble_eq_true rfl) ?_
  intro p e s m below meth c a hr hn hsz
  have hts := a.1.2.2.2.2
  have w1 := hts (Cond.methodLink RX6 1 objectInit) (List.mem_cons_of_mem _ (GL_1 _ (by decide +kernel)))
  have w2 := hts (Cond.instanceMethod objectInit) (List.mem_cons_of_mem _ (GL_1 _ (by decide +kernel)))
  have w3 := hts (Cond.code objectInit ⟨#[0xb1]⟩ 1 none) (List.mem_cons_of_mem _ (GL_1 _ (by decide +kernel)))
  have w4 : ∀ w ∈ u_ws RX3 TX3 13, w ∈ WW (.code yX6_init cX6_init 2 none) := fun w h => List.mem_cons_of_mem _ (inlX3 w h)
  have w5 := hts (Cond.classLink RX6 7 RX3) (List.mem_cons_of_mem _ (GL_1 _ (by decide +kernel)))
  have w6 := hts (Cond.instantiable RX3 13) (List.mem_cons_of_mem _ (GL_1 _ (by decide +kernel)))
  have w7 := hts (Cond.initialized RX3) (List.mem_cons_of_mem _ (GL_1 _ (by decide +kernel)))
  have w8 := hts (Cond.methodLink RX6 9 yX3_init) (List.mem_cons_of_mem _ (GL_2 _ (by decide +kernel)))
  have w9 := hts (Cond.instanceMethod yX3_init) (List.mem_cons_of_mem _ (GL_2 _ (by decide +kernel)))
  have w10 := hts (Cond.fieldLink RX6 10 "SightLegend" "map" "LSightLegend$MapState;") (List.mem_cons_of_mem _ (GL_1 _ (by decide +kernel)))
  have w11 : ∀ w ∈ u_ws RX6 TX6 8, w ∈ WW (.code yX6_init cX6_init 2 none) := fun w h => List.mem_cons_of_mem _ (inlX6 w h)
  have w12 : ∀ w ∈ u_ws RX1 TX1 12, w ∈ WW (.code yX6_init cX6_init 2 none) := fun w h => List.mem_cons_of_mem _ (inlX1 w h)
  have w13 := hts (Cond.classLink RX6 16 RX1) (List.mem_cons_of_mem _ (GL_1 _ (by decide +kernel)))
  have w14 := hts (Cond.instantiable RX1 12) (List.mem_cons_of_mem _ (GL_1 _ (by decide +kernel)))
  have w15 := hts (Cond.initialized RX1) (List.mem_cons_of_mem _ (GL_1 _ (by decide +kernel)))
  have w16 := hts (Cond.instanceMethod yX1_init) (List.mem_cons_of_mem _ (GL_2 _ (by decide +kernel)))
  have w17 := hts (Cond.fieldLink RX6 19 "SightLegend" "legend" "LSightLegend$Legend;") (List.mem_cons_of_mem _ (GL_1 _ (by decide +kernel)))
  have w18 := hts (Cond.fieldLink RX6 23 "SightLegend" "otherMap" "LSightLegend$MapState;") (List.mem_cons_of_mem _ (GL_1 _ (by decide +kernel)))
  have w19 := hts (Cond.fieldLink RX6 26 "SightLegend" "otherLegend" "LSightLegend$Legend;") (List.mem_cons_of_mem _ (GL_1 _ (by decide +kernel)))
  have w20 : ∀ w ∈ u_ws RX5 TX5 5, w ∈ WW (.code yX6_init cX6_init 2 none) := fun w h => List.mem_cons_of_mem _ (inlX5 w h)
  have w21 := hts (Cond.classLink RX6 29 RX5) (List.mem_cons_of_mem _ (GL_1 _ (by decide +kernel)))
  have w22 := hts (Cond.instantiable RX5 5) (List.mem_cons_of_mem _ (GL_2 _ (by decide +kernel)))
  have w23 := hts (Cond.initialized RX5) (List.mem_cons_of_mem _ (GL_2 _ (by decide +kernel)))
  have w24 := hts (Cond.instanceMethod yX5_init) (List.mem_cons_of_mem _ (GL_4 _ (by decide +kernel)))
  have w25 := hts (Cond.fieldLink RX6 32 "SightLegend" "text" "LSightLegend$SignText;") (List.mem_cons_of_mem _ (GL_2 _ (by decide +kernel)))
  have w26 := hts (Cond.fieldLink RX6 36 "SightLegend" "saved" "[LSightLegend$MapState;") (List.mem_cons_of_mem _ (GL_2 _ (by decide +kernel)))
  refine m_eq (ws1 := OW ws pp h 6 [Value.null, Value.null, Value.null, Value.null, Value.null, Value.null, vI 0, vI 0] []) (ow_init h0) ?_
  refine m_aload_n (pc := 0) a 0 dX6_init_0 rfl rfl ?_
  refine m_obj (pc := 1) a w1 w2 w3 (Nat.le_of_ble_eq_true rfl) (Nat.le_of_ble_eq_true rfl) dX6_init_1 ?_
  refine m_aload_n (pc := 4) a 0 dX6_init_4 rfl rfl ?_
  refine m_new (pc := 5) a w4 tyX3 tyX3_ok w5 w6 w7 vc3 (gs := [Value.null, Value.null, Value.null, Value.null, Value.null, vI 0, Value.null, Value.null, Value.null, Value.null, Value.null, Value.null, Value.null]) (by decide +kernel) (Nat.le_of_ble_eq_true rfl) (Nat.le_of_ble_eq_true rfl) dX6_init_5 (fun q1 => ?_)
  refine m_dup (pc := 8) a rfl dX6_init_8 ?_
  refine m_call (pc := 9) a (n := 0) (fun sz => c_X3_init hl0 (pp := ws.length + 0) (h := q1) (ow_new.trans rfl) sz) (cwI 0 hts (gl_W (GL_2 _ (by decide +kernel))) rfl rfl rfl w7 w8 w9 rfl (by decide +kernel) ⟨Nat.le_of_ble_eq_true rfl, Nat.le_of_ble_eq_true rfl⟩) (Nat.le_of_ble_eq_true rfl) ⟨Nat.le_of_ble_eq_true rfl, Nat.le_of_ble_eq_true rfl⟩ dX6_init_9 (fun u2 => ?_)
  refine m_putF (pc := 12) a 0 hp vc6 w11 w10 (by decide) tyX6 tyX6_ok nmX6 rfl hn rfl (ty := tyX6 0) (tyX6_ok 0 (by decide)) rfl rfl (Nat.le_of_ble_eq_true rfl) dX6_init_12 ?_
  refine m_aload_n (pc := 15) a 0 dX6_init_15 rfl rfl ?_
  refine m_new (pc := 16) a w12 tyX1 tyX1_ok w13 w14 w15 vc1 (gs := [vI 0, Value.null, Value.null, vI 0, vI 0, Value.null, Value.null, Value.null, Value.null, vI 0, vI 0, vI 0]) (by decide +kernel) (Nat.le_of_ble_eq_true rfl) (Nat.le_of_ble_eq_true rfl) dX6_init_16 (fun q3 => ?_)
  refine m_dup (pc := 19) a rfl dX6_init_19 ?_
  refine m_callN (pc := 20) a (n := 13) (fun sz => c_X1_init hl0 (pp := ws.length + 13) (h := q3) (ow_new.trans rfl) sz) ⟨va_cnB 0 hts (gl_W (GL_2 _ (by decide +kernel))) rfl rfl rfl a.2.2.2.2.2.1 w15 (by decide +kernel) ⟨Nat.le_of_ble_eq_true rfl, Nat.le_of_ble_eq_true rfl⟩, rfl, w16⟩ (Nat.le_of_ble_eq_true rfl) ⟨Nat.le_of_ble_eq_true rfl, Nat.le_of_ble_eq_true rfl⟩ dX6_init_20 (fun u4 => ?_)
  refine m_putF (pc := 23) a 1 hp vc6 w11 w17 (by decide) tyX6 tyX6_ok nmX6 rfl hn rfl (ty := tyX6 1) (tyX6_ok 1 (by decide)) rfl rfl (Nat.le_of_ble_eq_true rfl) dX6_init_23 ?_
  refine m_aload_n (pc := 26) a 0 dX6_init_26 rfl rfl ?_
  refine m_new (pc := 27) a w4 tyX3 tyX3_ok w5 w6 w7 vc3 (gs := [Value.null, Value.null, Value.null, Value.null, Value.null, vI 0, Value.null, Value.null, Value.null, Value.null, Value.null, Value.null, Value.null]) (by decide +kernel) (Nat.le_of_ble_eq_true rfl) (Nat.le_of_ble_eq_true rfl) dX6_init_27 (fun q5 => ?_)
  refine m_dup (pc := 30) a rfl dX6_init_30 ?_
  refine m_call (pc := 31) a (n := 46) (fun sz => c_X3_init hl0 (pp := ws.length + 46) (h := q5) (ow_new.trans rfl) sz) (cwI 0 hts (gl_W (GL_2 _ (by decide +kernel))) rfl rfl rfl w7 w8 w9 rfl (by decide +kernel) ⟨Nat.le_of_ble_eq_true rfl, Nat.le_of_ble_eq_true rfl⟩) (Nat.le_of_ble_eq_true rfl) ⟨Nat.le_of_ble_eq_true rfl, Nat.le_of_ble_eq_true rfl⟩ dX6_init_31 (fun u6 => ?_)
  refine m_putF (pc := 34) a 2 hp vc6 w11 w18 (by decide) tyX6 tyX6_ok nmX6 rfl hn rfl (ty := tyX6 2) (tyX6_ok 2 (by decide)) rfl rfl (Nat.le_of_ble_eq_true rfl) dX6_init_34 ?_
  refine m_aload_n (pc := 37) a 0 dX6_init_37 rfl rfl ?_
  refine m_new (pc := 38) a w12 tyX1 tyX1_ok w13 w14 w15 vc1 (gs := [vI 0, Value.null, Value.null, vI 0, vI 0, Value.null, Value.null, Value.null, Value.null, vI 0, vI 0, vI 0]) (by decide +kernel) (Nat.le_of_ble_eq_true rfl) (Nat.le_of_ble_eq_true rfl) dX6_init_38 (fun q7 => ?_)
  refine m_dup (pc := 41) a rfl dX6_init_41 ?_
  refine m_callN (pc := 42) a (n := 59) (fun sz => c_X1_init hl0 (pp := ws.length + 59) (h := q7) (ow_new.trans rfl) sz) ⟨va_cnB 0 hts (gl_W (GL_2 _ (by decide +kernel))) rfl rfl rfl a.2.2.2.2.2.1 w15 (by decide +kernel) ⟨Nat.le_of_ble_eq_true rfl, Nat.le_of_ble_eq_true rfl⟩, rfl, w16⟩ (Nat.le_of_ble_eq_true rfl) ⟨Nat.le_of_ble_eq_true rfl, Nat.le_of_ble_eq_true rfl⟩ dX6_init_42 (fun u8 => ?_)
  refine m_putF (pc := 45) a 3 hp vc6 w11 w19 (by decide) tyX6 tyX6_ok nmX6 rfl hn rfl (ty := tyX6 3) (tyX6_ok 3 (by decide)) rfl rfl (Nat.le_of_ble_eq_true rfl) dX6_init_45 ?_
  refine m_aload_n (pc := 48) a 0 dX6_init_48 rfl rfl ?_
  refine m_new (pc := 49) a w20 tyX5 tyX5_ok w21 w22 w23 vc5 (gs := [Value.null, vI 0, Value.null, vI 0, vI 0]) (by decide +kernel) (Nat.le_of_ble_eq_true rfl) (Nat.le_of_ble_eq_true rfl) dX6_init_49 (fun q9 => ?_)
  refine m_dup (pc := 52) a rfl dX6_init_52 ?_
  refine m_callN (pc := 53) a (n := 92) (fun sz => c_X5_init hl0 (pp := ws.length + 92) (h := q9) (ow_new.trans rfl) sz) ⟨va_cnB 0 hts (gl_W (GL_4 _ (by decide +kernel))) rfl rfl rfl a.2.2.2.2.2.2.1 w23 (by decide +kernel) ⟨Nat.le_of_ble_eq_true rfl, Nat.le_of_ble_eq_true rfl⟩, rfl, w24⟩ (Nat.le_of_ble_eq_true rfl) ⟨Nat.le_of_ble_eq_true rfl, Nat.le_of_ble_eq_true rfl⟩ dX6_init_53 (fun u10 => ?_)
  refine m_putF (pc := 56) a 4 hp vc6 w11 w25 (by decide) tyX6 tyX6_ok nmX6 rfl hn rfl (ty := tyX6 4) (tyX6_ok 4 (by decide)) rfl rfl (Nat.le_of_ble_eq_true rfl) dX6_init_56 ?_
  refine m_aload_n (pc := 59) a 0 dX6_init_59 rfl rfl ?_
  refine m_iconst (pc := 60) a dX6_init_60 ?_
  refine m_newq (pc := 61) a (n := 4) rfl (by decide) w5 a.2.2.2.2.1 (Nat.le_of_ble_eq_true rfl) (Nat.le_of_ble_eq_true rfl) dX6_init_61 (fun q11 => ?_)
  refine m_putF (pc := 64) a 5 hp vc6 w11 w26 (by decide) tyX6 tyX6_ok nmX6 rfl hn rfl (ty := tyX6 5) (tyX6_ok 5 (by decide)) rfl rfl (Nat.le_of_ble_eq_true rfl) dX6_init_64 ?_
  refine m_iconst (pc := 67) a dX6_init_67 ?_
  refine m_istore_n (pc := 68) a (ls1 := [(1, vI 0), (0, Value.ref h)]) dX6_init_68 rfl (by decide) rfl ?_
  refine m_iload_n (pc := 69) a 0 dX6_init_69 rfl rfl ?_
  refine m_iconst (pc := 70) a dX6_init_70 ?_
  refine m_geF (pc := 71) a ⟨by decide, by decide⟩ ⟨by decide, by decide⟩ (by decide) dX6_init_71 (tgt := 93) (by decide) ?_
  refine m_aload_n (pc := 74) a 1 dX6_init_74 rfl rfl ?_
  refine m_get (pc := 75) a 5 hp vc6 w11 w26 (by decide) (v := Value.ref q11) rfl dX6_init_75 ?_
  refine m_iload_n (pc := 78) a 0 dX6_init_78 rfl rfl ?_
  refine m_new (pc := 79) a w4 tyX3 tyX3_ok w5 w6 w7 vc3 (gs := [Value.null, Value.null, Value.null, Value.null, Value.null, vI 0, Value.null, Value.null, Value.null, Value.null, Value.null, Value.null, Value.null]) (by decide +kernel) (Nat.le_of_ble_eq_true rfl) (Nat.le_of_ble_eq_true rfl) dX6_init_79 (fun q12 => ?_)
  refine m_dup (pc := 82) a rfl dX6_init_82 ?_
  refine m_call (pc := 83) a (n := 108) (fun sz => c_X3_init hl0 (pp := ws.length + 108) (h := q12) (ow_new.trans rfl) sz) (cwI 0 hts (gl_W (GL_2 _ (by decide +kernel))) rfl rfl rfl w7 w8 w9 rfl (by decide +kernel) ⟨Nat.le_of_ble_eq_true rfl, Nat.le_of_ble_eq_true rfl⟩) (Nat.le_of_ble_eq_true rfl) ⟨Nat.le_of_ble_eq_true rfl, Nat.le_of_ble_eq_true rfl⟩ dX6_init_83 (fun u13 => ?_)
  refine m_astq (pc := 86) a 107 108 rfl rfl (by decide) dX6_init_86 ?_
  refine m_iinc (pc := 87) a (y := 1) (ls1 := [(1, vI 1), (0, Value.ref h)]) 0 dX6_init_87 rfl (by decide) (by decide) rfl ?_
  refine m_goto (pc := 90) a dX6_init_90 (tgt := 69) (by decide) ?_
  refine m_iload_n (pc := 69) a 0 dX6_init_69 rfl rfl ?_
  refine m_iconst (pc := 70) a dX6_init_70 ?_
  refine m_geF (pc := 71) a ⟨by decide, by decide⟩ ⟨by decide, by decide⟩ (by decide) dX6_init_71 (tgt := 93) (by decide) ?_
  refine m_aload_n (pc := 74) a 1 dX6_init_74 rfl rfl ?_
  refine m_get (pc := 75) a 5 hp vc6 w11 w26 (by decide) (v := Value.ref q11) rfl dX6_init_75 ?_
  refine m_iload_n (pc := 78) a 0 dX6_init_78 rfl rfl ?_
  refine m_new (pc := 79) a w4 tyX3 tyX3_ok w5 w6 w7 vc3 (gs := [Value.null, Value.null, Value.null, Value.null, Value.null, vI 0, Value.null, Value.null, Value.null, Value.null, Value.null, Value.null, Value.null]) (by decide +kernel) (Nat.le_of_ble_eq_true rfl) (Nat.le_of_ble_eq_true rfl) dX6_init_79 (fun q14 => ?_)
  refine m_dup (pc := 82) a rfl dX6_init_82 ?_
  refine m_call (pc := 83) a (n := 121) (fun sz => c_X3_init hl0 (pp := ws.length + 121) (h := q14) (ow_new.trans rfl) sz) (cwI 0 hts (gl_W (GL_2 _ (by decide +kernel))) rfl rfl rfl w7 w8 w9 rfl (by decide +kernel) ⟨Nat.le_of_ble_eq_true rfl, Nat.le_of_ble_eq_true rfl⟩) (Nat.le_of_ble_eq_true rfl) ⟨Nat.le_of_ble_eq_true rfl, Nat.le_of_ble_eq_true rfl⟩ dX6_init_83 (fun u15 => ?_)
  refine m_astq (pc := 86) a 107 121 rfl rfl (by decide) dX6_init_86 ?_
  refine m_iinc (pc := 87) a (y := 2) (ls1 := [(1, vI 2), (0, Value.ref h)]) 0 dX6_init_87 rfl (by decide) (by decide) rfl ?_
  refine m_goto (pc := 90) a dX6_init_90 (tgt := 69) (by decide) ?_
  refine m_iload_n (pc := 69) a 0 dX6_init_69 rfl rfl ?_
  refine m_iconst (pc := 70) a dX6_init_70 ?_
  refine m_geF (pc := 71) a ⟨by decide, by decide⟩ ⟨by decide, by decide⟩ (by decide) dX6_init_71 (tgt := 93) (by decide) ?_
  refine m_aload_n (pc := 74) a 1 dX6_init_74 rfl rfl ?_
  refine m_get (pc := 75) a 5 hp vc6 w11 w26 (by decide) (v := Value.ref q11) rfl dX6_init_75 ?_
  refine m_iload_n (pc := 78) a 0 dX6_init_78 rfl rfl ?_
  refine m_new (pc := 79) a w4 tyX3 tyX3_ok w5 w6 w7 vc3 (gs := [Value.null, Value.null, Value.null, Value.null, Value.null, vI 0, Value.null, Value.null, Value.null, Value.null, Value.null, Value.null, Value.null]) (by decide +kernel) (Nat.le_of_ble_eq_true rfl) (Nat.le_of_ble_eq_true rfl) dX6_init_79 (fun q16 => ?_)
  refine m_dup (pc := 82) a rfl dX6_init_82 ?_
  refine m_call (pc := 83) a (n := 134) (fun sz => c_X3_init hl0 (pp := ws.length + 134) (h := q16) (ow_new.trans rfl) sz) (cwI 0 hts (gl_W (GL_2 _ (by decide +kernel))) rfl rfl rfl w7 w8 w9 rfl (by decide +kernel) ⟨Nat.le_of_ble_eq_true rfl, Nat.le_of_ble_eq_true rfl⟩) (Nat.le_of_ble_eq_true rfl) ⟨Nat.le_of_ble_eq_true rfl, Nat.le_of_ble_eq_true rfl⟩ dX6_init_83 (fun u17 => ?_)
  refine m_astq (pc := 86) a 107 134 rfl rfl (by decide) dX6_init_86 ?_
  refine m_iinc (pc := 87) a (y := 3) (ls1 := [(1, vI 3), (0, Value.ref h)]) 0 dX6_init_87 rfl (by decide) (by decide) rfl ?_
  refine m_goto (pc := 90) a dX6_init_90 (tgt := 69) (by decide) ?_
  refine m_iload_n (pc := 69) a 0 dX6_init_69 rfl rfl ?_
  refine m_iconst (pc := 70) a dX6_init_70 ?_
  refine m_geF (pc := 71) a ⟨by decide, by decide⟩ ⟨by decide, by decide⟩ (by decide) dX6_init_71 (tgt := 93) (by decide) ?_
  refine m_aload_n (pc := 74) a 1 dX6_init_74 rfl rfl ?_
  refine m_get (pc := 75) a 5 hp vc6 w11 w26 (by decide) (v := Value.ref q11) rfl dX6_init_75 ?_
  refine m_iload_n (pc := 78) a 0 dX6_init_78 rfl rfl ?_
  refine m_new (pc := 79) a w4 tyX3 tyX3_ok w5 w6 w7 vc3 (gs := [Value.null, Value.null, Value.null, Value.null, Value.null, vI 0, Value.null, Value.null, Value.null, Value.null, Value.null, Value.null, Value.null]) (by decide +kernel) (Nat.le_of_ble_eq_true rfl) (Nat.le_of_ble_eq_true rfl) dX6_init_79 (fun q18 => ?_)
  refine m_dup (pc := 82) a rfl dX6_init_82 ?_
  refine m_call (pc := 83) a (n := 147) (fun sz => c_X3_init hl0 (pp := ws.length + 147) (h := q18) (ow_new.trans rfl) sz) (cwI 0 hts (gl_W (GL_2 _ (by decide +kernel))) rfl rfl rfl w7 w8 w9 rfl (by decide +kernel) ⟨Nat.le_of_ble_eq_true rfl, Nat.le_of_ble_eq_true rfl⟩) (Nat.le_of_ble_eq_true rfl) ⟨Nat.le_of_ble_eq_true rfl, Nat.le_of_ble_eq_true rfl⟩ dX6_init_83 (fun u19 => ?_)
  refine m_astq (pc := 86) a 107 147 rfl rfl (by decide) dX6_init_86 ?_
  refine m_iinc (pc := 87) a (y := 4) (ls1 := [(1, vI 4), (0, Value.ref h)]) 0 dX6_init_87 rfl (by decide) (by decide) rfl ?_
  refine m_goto (pc := 90) a dX6_init_90 (tgt := 69) (by decide) ?_
  refine m_iload_n (pc := 69) a 0 dX6_init_69 rfl rfl ?_
  refine m_iconst (pc := 70) a dX6_init_70 ?_
  refine m_geT (pc := 71) a ⟨by decide, by decide⟩ ⟨by decide, by decide⟩ (by decide) dX6_init_71 (tgt := 93) (by decide) ?_
  exact m_ret (pc := 93) a (fun k => ([h, q1, (u2 1), (u2 2), (u2 3), (u2 4), (u2 5), (u2 6), (u2 7), (u2 8), (u2 9), (u2 10), (u2 11), (u2 12), q3, (u4 1), (u4 2), (u4 3), (u4 4), (u4 5), (u4 6), (u4 7), (u4 8), (u4 9), (u4 10), (u4 11), (u4 12), (u4 13), (u4 14), (u4 15), (u4 16), (u4 17), (u4 18), (u4 19), (u4 20), (u4 21), (u4 22), (u4 23), (u4 24), (u4 25), (u4 26), (u4 27), (u4 28), (u4 29), (u4 30), (u4 31), (u4 32), q5, (u6 1), (u6 2), (u6 3), (u6 4), (u6 5), (u6 6), (u6 7), (u6 8), (u6 9), (u6 10), (u6 11), (u6 12), q7, (u8 1), (u8 2), (u8 3), (u8 4), (u8 5), (u8 6), (u8 7), (u8 8), (u8 9), (u8 10), (u8 11), (u8 12), (u8 13), (u8 14), (u8 15), (u8 16), (u8 17), (u8 18), (u8 19), (u8 20), (u8 21), (u8 22), (u8 23), (u8 24), (u8 25), (u8 26), (u8 27), (u8 28), (u8 29), (u8 30), (u8 31), (u8 32), q9, (u10 1), (u10 2), (u10 3), (u10 4), (u10 5), (u10 6), (u10 7), (u10 8), (u10 9), (u10 10), (u10 11), (u10 12), (u10 13), (u10 14), q11, q12, (u13 1), (u13 2), (u13 3), (u13 4), (u13 5), (u13 6), (u13 7), (u13 8), (u13 9), (u13 10), (u13 11), (u13 12), q14, (u15 1), (u15 2), (u15 3), (u15 4), (u15 5), (u15 6), (u15 7), (u15 8), (u15 9), (u15 10), (u15 11), (u15 12), q16, (u17 1), (u17 2), (u17 3), (u17 4), (u17 5), (u17 6), (u17 7), (u17 8), (u17 9), (u17 10), (u17 11), (u17 12), q18, (u19 1), (u19 2), (u19 3), (u19 4), (u19 5), (u19 6), (u19 7), (u19 8), (u19 9), (u19 10), (u19 11), (u19 12)] : List Nat).getD k 0) hr (Nat.le_of_ble_eq_true rfl) (Nat.le_of_ble_eq_true rfl) rfl dX6_init_93

set_option maxRecDepth 100000 in
set_option maxHeartbeats 4000000 in
theorem c_X7_init {l : Launch} {D : va_G} {X : XI} (hl0 : l.stackTraces = false) {ws : va_W} {pp h : Nat} (h0 : ws[pp]? = some (h, .inr (7, [Value.null, Value.null, Value.null, Value.null, vI 0, Value.null, vI 0, vI 0, Value.null, Value.null, Value.null, Value.null, Value.null, vI 0, vI 0, vI 0, vI 0, vI 0, vI 0, vI 0, vI 0, vI 0, vI 0, Value.null, Value.null, Value.null, Value.null, vI 0, vJ 0]))) (sz : Nat) : Met l yX7_init (WW (.code yX7_init cX7_init 2 none)) { frames := 1, cells := 14, slots := 3367, locals := 12 } (va_Pc [.ref h] (WC D X ws sz)) (QC D (va_A ws sz) (fun u => OW ws pp h 7 (modF (uu h u) 0) (modA X (uu h u) 0))) 14 3367 (va_A ws sz) := by
  have hp : pp < ws.length := (List.getElem?_eq_some_iff.mp h0).1
  refine m_start (own := RX7) (cc := cX7_init) (maxL := 2) (by decide) rfl rfl rfl (Nat.le_of_ble_eq_true rfl) ?_
  intro p e s m below meth c a hr hn hsz
  have hts := a.1.2.2.2.2
  have w1 := hts (Cond.methodLink RX7 1 objectInit) (List.mem_cons_of_mem _ (GL_5 _ (by decide +kernel)))
  have w2 := hts (Cond.instanceMethod objectInit) (List.mem_cons_of_mem _ (GL_1 _ (by decide +kernel)))
  have w3 := hts (Cond.code objectInit ⟨#[0xb1]⟩ 1 none) (List.mem_cons_of_mem _ (GL_1 _ (by decide +kernel)))
  have w4 := hts (Cond.arrayClass .int) (List.mem_cons_of_mem _ (GL_2 _ (by decide +kernel)))
  have w5 := hts (Cond.fieldLink RX7 7 "SightLegendModel" "s" "[I") (List.mem_cons_of_mem _ (GL_5 _ (by decide +kernel)))
  have w6 : ∀ w ∈ u_ws RX7 TX7 29, w ∈ WW (.code yX7_init cX7_init 2 none) := fun w h => List.mem_cons_of_mem _ (inlX7 w h)
  have w7 := hts (Cond.fieldLink RX7 13 "SightLegendModel" "past" "[I") (List.mem_cons_of_mem _ (GL_5 _ (by decide +kernel)))
  have w8 := hts (Cond.fieldLink RX7 16 "SightLegendModel" "aside" "[I") (List.mem_cons_of_mem _ (GL_5 _ (by decide +kernel)))
  have w9 := hts (Cond.fieldLink RX7 19 "SightLegendModel" "kept" "[I") (List.mem_cons_of_mem _ (GL_5 _ (by decide +kernel)))
  have w10 := hts (Cond.fieldLink RX7 22 "SightLegendModel" "text" "[I") (List.mem_cons_of_mem _ (GL_5 _ (by decide +kernel)))
  have w11 := hts (Cond.arrayClass .boolean) (List.mem_cons_of_mem _ (GL_3 _ (by decide +kernel)))
  have w12 := hts (Cond.fieldLink RX7 25 "SightLegendModel" "sight" "[Z") (List.mem_cons_of_mem _ (GL_5 _ (by decide +kernel)))
  have w13 := hts (Cond.fieldLink RX7 29 "SightLegendModel" "line" "[I") (List.mem_cons_of_mem _ (GL_5 _ (by decide +kernel)))
  have w14 := hts (Cond.fieldLink RX7 32 "SightLegendModel" "old" "[I") (List.mem_cons_of_mem _ (GL_5 _ (by decide +kernel)))
  have w15 := hts (Cond.fieldLink RX7 35 "SightLegendModel" "columnOf" "[I") (List.mem_cons_of_mem _ (GL_5 _ (by decide +kernel)))
  have w16 := hts (Cond.fieldLink RX7 38 "SightLegendModel" "placeOf" "[I") (List.mem_cons_of_mem _ (GL_5 _ (by decide +kernel)))
  have w17 := hts (Cond.fieldLink RX7 41 "SightLegendModel" "firsts" "[I") (List.mem_cons_of_mem _ (GL_5 _ (by decide +kernel)))
  have w18 := hts (Cond.fieldLink RX7 44 "SightLegendModel" "lasts" "[I") (List.mem_cons_of_mem _ (GL_5 _ (by decide +kernel)))
  have w19 := hts (Cond.fieldLink RX7 47 "SightLegendModel" "sums" "[I") (List.mem_cons_of_mem _ (GL_5 _ (by decide +kernel)))
  have w20 := hts (Cond.fieldLink RX7 50 "SightLegendModel" "waits" "[Z") (List.mem_cons_of_mem _ (GL_5 _ (by decide +kernel)))
  refine m_eq (ws1 := OW ws pp h 7 [Value.null, Value.null, Value.null, Value.null, vI 0, Value.null, vI 0, vI 0, Value.null, Value.null, Value.null, Value.null, Value.null, vI 0, vI 0, vI 0, vI 0, vI 0, vI 0, vI 0, vI 0, vI 0, vI 0, Value.null, Value.null, Value.null, Value.null, vI 0, vJ 0] []) (ow_init h0) ?_
  refine m_aload_n (pc := 0) a 0 dX7_init_0 rfl rfl ?_
  refine m_obj (pc := 1) a w1 w2 w3 (Nat.le_of_ble_eq_true rfl) (Nat.le_of_ble_eq_true rfl) dX7_init_1 ?_
  refine m_aload_n (pc := 4) a 0 dX7_init_4 rfl rfl ?_
  refine m_sipush (pc := 5) a dX7_init_5 (by decide) ?_
  refine m_newI (pc := 8) a (n := 311) rfl (by decide) w4 (Nat.le_of_ble_eq_true rfl) (Nat.le_of_ble_eq_true rfl) dX7_init_8 (fun q1 => ?_)
  refine m_putF (pc := 10) a 0 hp vc7 w6 w5 (by decide) tyX7 tyX7_ok nmX7 rfl hn rfl (ty := tyX7 0) (tyX7_ok 0 (by decide)) rfl rfl (Nat.le_of_ble_eq_true rfl) dX7_init_10 ?_
  refine m_aload_n (pc := 13) a 0 dX7_init_13 rfl rfl ?_
  refine m_sipush (pc := 14) a dX7_init_14 (by decide) ?_
  refine m_newI (pc := 17) a (n := 1244) rfl (by decide) w4 (Nat.le_of_ble_eq_true rfl) (Nat.le_of_ble_eq_true rfl) dX7_init_17 (fun q2 => ?_)
  refine m_putF (pc := 19) a 1 hp vc7 w6 w7 (by decide) tyX7 tyX7_ok nmX7 rfl hn rfl (ty := tyX7 1) (tyX7_ok 1 (by decide)) rfl rfl (Nat.le_of_ble_eq_true rfl) dX7_init_19 ?_
  refine m_aload_n (pc := 22) a 0 dX7_init_22 rfl rfl ?_
  refine m_sipush (pc := 23) a dX7_init_23 (by decide) ?_
  refine m_newI (pc := 26) a (n := 311) rfl (by decide) w4 (Nat.le_of_ble_eq_true rfl) (Nat.le_of_ble_eq_true rfl) dX7_init_26 (fun q3 => ?_)
  refine m_putF (pc := 28) a 2 hp vc7 w6 w8 (by decide) tyX7 tyX7_ok nmX7 rfl hn rfl (ty := tyX7 2) (tyX7_ok 2 (by decide)) rfl rfl (Nat.le_of_ble_eq_true rfl) dX7_init_28 ?_
  refine m_aload_n (pc := 31) a 0 dX7_init_31 rfl rfl ?_
  refine m_sipush (pc := 32) a dX7_init_32 (by decide) ?_
  refine m_newI (pc := 35) a (n := 311) rfl (by decide) w4 (Nat.le_of_ble_eq_true rfl) (Nat.le_of_ble_eq_true rfl) dX7_init_35 (fun q4 => ?_)
  refine m_putF (pc := 37) a 3 hp vc7 w6 w9 (by decide) tyX7 tyX7_ok nmX7 rfl hn rfl (ty := tyX7 3) (tyX7_ok 3 (by decide)) rfl rfl (Nat.le_of_ble_eq_true rfl) dX7_init_37 ?_
  refine m_aload_n (pc := 40) a 0 dX7_init_40 rfl rfl ?_
  refine m_sipush (pc := 41) a dX7_init_41 (by decide) ?_
  refine m_newI (pc := 44) a (n := 160) rfl (by decide) w4 (Nat.le_of_ble_eq_true rfl) (Nat.le_of_ble_eq_true rfl) dX7_init_44 (fun q5 => ?_)
  refine m_putF (pc := 46) a 5 hp vc7 w6 w10 (by decide) tyX7 tyX7_ok nmX7 rfl hn rfl (ty := tyX7 5) (tyX7_ok 5 (by decide)) rfl rfl (Nat.le_of_ble_eq_true rfl) dX7_init_46 ?_
  refine m_aload_n (pc := 49) a 0 dX7_init_49 rfl rfl ?_
  refine m_bipush (pc := 50) a dX7_init_50 (by decide) ?_
  refine m_newZ (pc := 52) a (n := 40) rfl (by decide) w11 (Nat.le_of_ble_eq_true rfl) (Nat.le_of_ble_eq_true rfl) dX7_init_52 (fun q6 => ?_)
  refine m_putF (pc := 54) a 8 hp vc7 w6 w12 (by decide) tyX7 tyX7_ok nmX7 rfl hn rfl (ty := tyX7 8) (tyX7_ok 8 (by decide)) rfl rfl (Nat.le_of_ble_eq_true rfl) dX7_init_54 ?_
  refine m_aload_n (pc := 57) a 0 dX7_init_57 rfl rfl ?_
  refine m_sipush (pc := 58) a dX7_init_58 (by decide) ?_
  refine m_newI (pc := 61) a (n := 400) rfl (by decide) w4 (Nat.le_of_ble_eq_true rfl) (Nat.le_of_ble_eq_true rfl) dX7_init_61 (fun q7 => ?_)
  refine m_putF (pc := 63) a 9 hp vc7 w6 w13 (by decide) tyX7 tyX7_ok nmX7 rfl hn rfl (ty := tyX7 9) (tyX7_ok 9 (by decide)) rfl rfl (Nat.le_of_ble_eq_true rfl) dX7_init_63 ?_
  refine m_aload_n (pc := 66) a 0 dX7_init_66 rfl rfl ?_
  refine m_sipush (pc := 67) a dX7_init_67 (by decide) ?_
  refine m_newI (pc := 70) a (n := 400) rfl (by decide) w4 (Nat.le_of_ble_eq_true rfl) (Nat.le_of_ble_eq_true rfl) dX7_init_70 (fun q8 => ?_)
  refine m_putF (pc := 72) a 10 hp vc7 w6 w14 (by decide) tyX7 tyX7_ok nmX7 rfl hn rfl (ty := tyX7 10) (tyX7_ok 10 (by decide)) rfl rfl (Nat.le_of_ble_eq_true rfl) dX7_init_72 ?_
  refine m_aload_n (pc := 75) a 0 dX7_init_75 rfl rfl ?_
  refine m_bipush (pc := 76) a dX7_init_76 (by decide) ?_
  refine m_newI (pc := 78) a (n := 80) rfl (by decide) w4 (Nat.le_of_ble_eq_true rfl) (Nat.le_of_ble_eq_true rfl) dX7_init_78 (fun q9 => ?_)
  refine m_putF (pc := 80) a 11 hp vc7 w6 w15 (by decide) tyX7 tyX7_ok nmX7 rfl hn rfl (ty := tyX7 11) (tyX7_ok 11 (by decide)) rfl rfl (Nat.le_of_ble_eq_true rfl) dX7_init_80 ?_
  refine m_aload_n (pc := 83) a 0 dX7_init_83 rfl rfl ?_
  refine m_bipush (pc := 84) a dX7_init_84 (by decide) ?_
  refine m_newI (pc := 86) a (n := 80) rfl (by decide) w4 (Nat.le_of_ble_eq_true rfl) (Nat.le_of_ble_eq_true rfl) dX7_init_86 (fun q10 => ?_)
  refine m_putF (pc := 88) a 12 hp vc7 w6 w16 (by decide) tyX7 tyX7_ok nmX7 rfl hn rfl (ty := tyX7 12) (tyX7_ok 12 (by decide)) rfl rfl (Nat.le_of_ble_eq_true rfl) dX7_init_88 ?_
  refine m_aload_n (pc := 91) a 0 dX7_init_91 rfl rfl ?_
  refine m_bipush (pc := 92) a dX7_init_92 (by decide) ?_
  refine m_newI (pc := 94) a (n := 6) rfl (by decide) w4 (Nat.le_of_ble_eq_true rfl) (Nat.le_of_ble_eq_true rfl) dX7_init_94 (fun q11 => ?_)
  refine m_putF (pc := 96) a 23 hp vc7 w6 w17 (by decide) tyX7 tyX7_ok nmX7 rfl hn rfl (ty := tyX7 23) (tyX7_ok 23 (by decide)) rfl rfl (Nat.le_of_ble_eq_true rfl) dX7_init_96 ?_
  refine m_aload_n (pc := 99) a 0 dX7_init_99 rfl rfl ?_
  refine m_bipush (pc := 100) a dX7_init_100 (by decide) ?_
  refine m_newI (pc := 102) a (n := 6) rfl (by decide) w4 (Nat.le_of_ble_eq_true rfl) (Nat.le_of_ble_eq_true rfl) dX7_init_102 (fun q12 => ?_)
  refine m_putF (pc := 104) a 24 hp vc7 w6 w18 (by decide) tyX7 tyX7_ok nmX7 rfl hn rfl (ty := tyX7 24) (tyX7_ok 24 (by decide)) rfl rfl (Nat.le_of_ble_eq_true rfl) dX7_init_104 ?_
  refine m_aload_n (pc := 107) a 0 dX7_init_107 rfl rfl ?_
  refine m_bipush (pc := 108) a dX7_init_108 (by decide) ?_
  refine m_newI (pc := 110) a (n := 6) rfl (by decide) w4 (Nat.le_of_ble_eq_true rfl) (Nat.le_of_ble_eq_true rfl) dX7_init_110 (fun q13 => ?_)
  refine m_putF (pc := 112) a 25 hp vc7 w6 w19 (by decide) tyX7 tyX7_ok nmX7 rfl hn rfl (ty := tyX7 25) (tyX7_ok 25 (by decide)) rfl rfl (Nat.le_of_ble_eq_true rfl) dX7_init_112 ?_
  refine m_aload_n (pc := 115) a 0 dX7_init_115 rfl rfl ?_
  refine m_bipush (pc := 116) a dX7_init_116 (by decide) ?_
  refine m_newZ (pc := 118) a (n := 12) rfl (by decide) w11 (Nat.le_of_ble_eq_true rfl) (Nat.le_of_ble_eq_true rfl) dX7_init_118 (fun q14 => ?_)
  refine m_putF (pc := 120) a 26 hp vc7 w6 w20 (by decide) tyX7 tyX7_ok nmX7 rfl hn rfl (ty := tyX7 26) (tyX7_ok 26 (by decide)) rfl rfl (Nat.le_of_ble_eq_true rfl) dX7_init_120 ?_
  refine m_aload_n (pc := 123) a 0 dX7_init_123 rfl rfl ?_
  refine m_get (pc := 124) a 0 hp vc7 w6 w5 (by decide) (v := Value.ref q1) rfl dX7_init_124 ?_
  refine m_iconst (pc := 127) a dX7_init_127 ?_
  refine m_iconst (pc := 128) a dX7_init_128 ?_
  refine m_iast (pc := 129) a 0 rfl (by decide) (by decide) dX7_init_129 ?_
  refine m_aload_n (pc := 130) a 0 dX7_init_130 rfl rfl ?_
  refine m_get (pc := 131) a 0 hp vc7 w6 w5 (by decide) (v := Value.ref q1) rfl dX7_init_131 ?_
  refine m_iconst (pc := 134) a dX7_init_134 ?_
  refine m_iconst (pc := 135) a dX7_init_135 ?_
  refine m_iastS (pc := 136) a (Nat.le_of_ble_eq_true rfl) (by decide) (by decide) dX7_init_136 ?_
  refine m_aload_n (pc := 137) a 0 dX7_init_137 rfl rfl ?_
  refine m_get (pc := 138) a 0 hp vc7 w6 w5 (by decide) (v := Value.ref q1) rfl dX7_init_138 ?_
  refine m_iconst (pc := 141) a dX7_init_141 ?_
  refine m_bipush (pc := 142) a dX7_init_142 (by decide) ?_
  refine m_iastS (pc := 144) a (Nat.le_of_ble_eq_true rfl) (by decide) (by decide) dX7_init_144 ?_
  refine m_aload_n (pc := 145) a 0 dX7_init_145 rfl rfl ?_
  refine m_get (pc := 146) a 0 hp vc7 w6 w5 (by decide) (v := Value.ref q1) rfl dX7_init_146 ?_
  refine m_iconst (pc := 149) a dX7_init_149 ?_
  refine m_iconst (pc := 150) a dX7_init_150 ?_
  refine m_iastS (pc := 151) a (Nat.le_of_ble_eq_true rfl) (by decide) (by decide) dX7_init_151 ?_
  refine m_aload_n (pc := 152) a 0 dX7_init_152 rfl rfl ?_
  refine m_get (pc := 153) a 0 hp vc7 w6 w5 (by decide) (v := Value.ref q1) rfl dX7_init_153 ?_
  refine m_bipush (pc := 156) a dX7_init_156 (by decide) ?_
  refine m_bipush (pc := 158) a dX7_init_158 (by decide) ?_
  refine m_iastS (pc := 160) a (Nat.le_of_ble_eq_true rfl) (by decide) (by decide) dX7_init_160 ?_
  refine m_aload_n (pc := 161) a 0 dX7_init_161 rfl rfl ?_
  refine m_get (pc := 162) a 0 hp vc7 w6 w5 (by decide) (v := Value.ref q1) rfl dX7_init_162 ?_
  refine m_bipush (pc := 165) a dX7_init_165 (by decide) ?_
  refine m_bipush (pc := 167) a dX7_init_167 (by decide) ?_
  refine m_iastS (pc := 169) a (Nat.le_of_ble_eq_true rfl) (by decide) (by decide) dX7_init_169 ?_
  refine m_aload_n (pc := 170) a 0 dX7_init_170 rfl rfl ?_
  refine m_get (pc := 171) a 0 hp vc7 w6 w5 (by decide) (v := Value.ref q1) rfl dX7_init_171 ?_
  refine m_bipush (pc := 174) a dX7_init_174 (by decide) ?_
  refine m_iconst (pc := 176) a dX7_init_176 ?_
  refine m_iastS (pc := 177) a (Nat.le_of_ble_eq_true rfl) (by decide) (by decide) dX7_init_177 ?_
  refine m_iconst (pc := 178) a dX7_init_178 ?_
  refine m_istore_n (pc := 179) a (ls1 := [(1, vI 0), (0, Value.ref h)]) dX7_init_179 rfl (by decide) rfl ?_
  refine m_iload_n (pc := 180) a 0 dX7_init_180 rfl rfl ?_
  refine m_bipush (pc := 181) a dX7_init_181 (by decide) ?_
  refine m_geF (pc := 183) a ⟨by decide, by decide⟩ ⟨by decide, by decide⟩ (by decide) dX7_init_183 (tgt := 220) (by decide) ?_
  refine m_aload_n (pc := 186) a 1 dX7_init_186 rfl rfl ?_
  refine m_get (pc := 187) a 0 hp vc7 w6 w5 (by decide) (v := Value.ref q1) rfl dX7_init_187 ?_
  refine m_bipush (pc := 190) a dX7_init_190 (by decide) ?_
  refine m_bipush (pc := 192) a dX7_init_192 (by decide) ?_
  refine m_iload_n (pc := 194) a 0 dX7_init_194 rfl rfl ?_
  refine m_imul (pc := 195) a (z := 0) (by decide) dX7_init_195 ?_
  refine m_iadd (pc := 196) a (z := 15) (by decide) dX7_init_196 ?_
  refine m_iload_n (pc := 197) a 0 dX7_init_197 rfl rfl ?_
  refine m_iastS (pc := 198) a (Nat.le_of_ble_eq_true rfl) (by decide) (by decide) dX7_init_198 ?_
  refine m_aload_n (pc := 199) a 1 dX7_init_199 rfl rfl ?_
  refine m_get (pc := 200) a 0 hp vc7 w6 w5 (by decide) (v := Value.ref q1) rfl dX7_init_200 ?_
  refine m_bipush (pc := 203) a dX7_init_203 (by decide) ?_
  refine m_bipush (pc := 205) a dX7_init_205 (by decide) ?_
  refine m_iload_n (pc := 207) a 0 dX7_init_207 rfl rfl ?_
  refine m_imul (pc := 208) a (z := 0) (by decide) dX7_init_208 ?_
  refine m_iadd (pc := 209) a (z := 15) (by decide) dX7_init_209 ?_
  refine m_iconst (pc := 210) a dX7_init_210 ?_
  refine m_iadd (pc := 211) a (z := 16) (by decide) dX7_init_211 ?_
  refine m_iconst (pc := 212) a dX7_init_212 ?_
  refine m_iastS (pc := 213) a (Nat.le_of_ble_eq_true rfl) (by decide) (by decide) dX7_init_213 ?_
  refine m_iinc (pc := 214) a (y := 1) (ls1 := [(1, vI 1), (0, Value.ref h)]) 0 dX7_init_214 rfl (by decide) (by decide) rfl ?_
  refine m_goto (pc := 217) a dX7_init_217 (tgt := 180) (by decide) ?_
  refine m_iload_n (pc := 180) a 0 dX7_init_180 rfl rfl ?_
  refine m_bipush (pc := 181) a dX7_init_181 (by decide) ?_
  refine m_geF (pc := 183) a ⟨by decide, by decide⟩ ⟨by decide, by decide⟩ (by decide) dX7_init_183 (tgt := 220) (by decide) ?_
  refine m_aload_n (pc := 186) a 1 dX7_init_186 rfl rfl ?_
  refine m_get (pc := 187) a 0 hp vc7 w6 w5 (by decide) (v := Value.ref q1) rfl dX7_init_187 ?_
  refine m_bipush (pc := 190) a dX7_init_190 (by decide) ?_
  refine m_bipush (pc := 192) a dX7_init_192 (by decide) ?_
  refine m_iload_n (pc := 194) a 0 dX7_init_194 rfl rfl ?_
  refine m_imul (pc := 195) a (z := 8) (by decide) dX7_init_195 ?_
  refine m_iadd (pc := 196) a (z := 23) (by decide) dX7_init_196 ?_
  refine m_iload_n (pc := 197) a 0 dX7_init_197 rfl rfl ?_
  refine m_iastS (pc := 198) a (Nat.le_of_ble_eq_true rfl) (by decide) (by decide) dX7_init_198 ?_
  refine m_aload_n (pc := 199) a 1 dX7_init_199 rfl rfl ?_
  refine m_get (pc := 200) a 0 hp vc7 w6 w5 (by decide) (v := Value.ref q1) rfl dX7_init_200 ?_
  refine m_bipush (pc := 203) a dX7_init_203 (by decide) ?_
  refine m_bipush (pc := 205) a dX7_init_205 (by decide) ?_
  refine m_iload_n (pc := 207) a 0 dX7_init_207 rfl rfl ?_
  refine m_imul (pc := 208) a (z := 8) (by decide) dX7_init_208 ?_
  refine m_iadd (pc := 209) a (z := 23) (by decide) dX7_init_209 ?_
  refine m_iconst (pc := 210) a dX7_init_210 ?_
  refine m_iadd (pc := 211) a (z := 24) (by decide) dX7_init_211 ?_
  refine m_iconst (pc := 212) a dX7_init_212 ?_
  refine m_iastS (pc := 213) a (Nat.le_of_ble_eq_true rfl) (by decide) (by decide) dX7_init_213 ?_
  refine m_iinc (pc := 214) a (y := 2) (ls1 := [(1, vI 2), (0, Value.ref h)]) 0 dX7_init_214 rfl (by decide) (by decide) rfl ?_
  refine m_goto (pc := 217) a dX7_init_217 (tgt := 180) (by decide) ?_
  refine m_iload_n (pc := 180) a 0 dX7_init_180 rfl rfl ?_
  refine m_bipush (pc := 181) a dX7_init_181 (by decide) ?_
  refine m_geF (pc := 183) a ⟨by decide, by decide⟩ ⟨by decide, by decide⟩ (by decide) dX7_init_183 (tgt := 220) (by decide) ?_
  refine m_aload_n (pc := 186) a 1 dX7_init_186 rfl rfl ?_
  refine m_get (pc := 187) a 0 hp vc7 w6 w5 (by decide) (v := Value.ref q1) rfl dX7_init_187 ?_
  refine m_bipush (pc := 190) a dX7_init_190 (by decide) ?_
  refine m_bipush (pc := 192) a dX7_init_192 (by decide) ?_
  refine m_iload_n (pc := 194) a 0 dX7_init_194 rfl rfl ?_
  refine m_imul (pc := 195) a (z := 16) (by decide) dX7_init_195 ?_
  refine m_iadd (pc := 196) a (z := 31) (by decide) dX7_init_196 ?_
  refine m_iload_n (pc := 197) a 0 dX7_init_197 rfl rfl ?_
  refine m_iastS (pc := 198) a (Nat.le_of_ble_eq_true rfl) (by decide) (by decide) dX7_init_198 ?_
  refine m_aload_n (pc := 199) a 1 dX7_init_199 rfl rfl ?_
  refine m_get (pc := 200) a 0 hp vc7 w6 w5 (by decide) (v := Value.ref q1) rfl dX7_init_200 ?_
  refine m_bipush (pc := 203) a dX7_init_203 (by decide) ?_
  refine m_bipush (pc := 205) a dX7_init_205 (by decide) ?_
  refine m_iload_n (pc := 207) a 0 dX7_init_207 rfl rfl ?_
  refine m_imul (pc := 208) a (z := 16) (by decide) dX7_init_208 ?_
  refine m_iadd (pc := 209) a (z := 31) (by decide) dX7_init_209 ?_
  refine m_iconst (pc := 210) a dX7_init_210 ?_
  refine m_iadd (pc := 211) a (z := 32) (by decide) dX7_init_211 ?_
  refine m_iconst (pc := 212) a dX7_init_212 ?_
  refine m_iastS (pc := 213) a (Nat.le_of_ble_eq_true rfl) (by decide) (by decide) dX7_init_213 ?_
  refine m_iinc (pc := 214) a (y := 3) (ls1 := [(1, vI 3), (0, Value.ref h)]) 0 dX7_init_214 rfl (by decide) (by decide) rfl ?_
  refine m_goto (pc := 217) a dX7_init_217 (tgt := 180) (by decide) ?_
  refine m_iload_n (pc := 180) a 0 dX7_init_180 rfl rfl ?_
  refine m_bipush (pc := 181) a dX7_init_181 (by decide) ?_
  refine m_geF (pc := 183) a ⟨by decide, by decide⟩ ⟨by decide, by decide⟩ (by decide) dX7_init_183 (tgt := 220) (by decide) ?_
  refine m_aload_n (pc := 186) a 1 dX7_init_186 rfl rfl ?_
  refine m_get (pc := 187) a 0 hp vc7 w6 w5 (by decide) (v := Value.ref q1) rfl dX7_init_187 ?_
  refine m_bipush (pc := 190) a dX7_init_190 (by decide) ?_
  refine m_bipush (pc := 192) a dX7_init_192 (by decide) ?_
  refine m_iload_n (pc := 194) a 0 dX7_init_194 rfl rfl ?_
  refine m_imul (pc := 195) a (z := 24) (by decide) dX7_init_195 ?_
  refine m_iadd (pc := 196) a (z := 39) (by decide) dX7_init_196 ?_
  refine m_iload_n (pc := 197) a 0 dX7_init_197 rfl rfl ?_
  refine m_iastS (pc := 198) a (Nat.le_of_ble_eq_true rfl) (by decide) (by decide) dX7_init_198 ?_
  refine m_aload_n (pc := 199) a 1 dX7_init_199 rfl rfl ?_
  refine m_get (pc := 200) a 0 hp vc7 w6 w5 (by decide) (v := Value.ref q1) rfl dX7_init_200 ?_
  refine m_bipush (pc := 203) a dX7_init_203 (by decide) ?_
  refine m_bipush (pc := 205) a dX7_init_205 (by decide) ?_
  refine m_iload_n (pc := 207) a 0 dX7_init_207 rfl rfl ?_
  refine m_imul (pc := 208) a (z := 24) (by decide) dX7_init_208 ?_
  refine m_iadd (pc := 209) a (z := 39) (by decide) dX7_init_209 ?_
  refine m_iconst (pc := 210) a dX7_init_210 ?_
  refine m_iadd (pc := 211) a (z := 40) (by decide) dX7_init_211 ?_
  refine m_iconst (pc := 212) a dX7_init_212 ?_
  refine m_iastS (pc := 213) a (Nat.le_of_ble_eq_true rfl) (by decide) (by decide) dX7_init_213 ?_
  refine m_iinc (pc := 214) a (y := 4) (ls1 := [(1, vI 4), (0, Value.ref h)]) 0 dX7_init_214 rfl (by decide) (by decide) rfl ?_
  refine m_goto (pc := 217) a dX7_init_217 (tgt := 180) (by decide) ?_
  refine m_iload_n (pc := 180) a 0 dX7_init_180 rfl rfl ?_
  refine m_bipush (pc := 181) a dX7_init_181 (by decide) ?_
  refine m_geF (pc := 183) a ⟨by decide, by decide⟩ ⟨by decide, by decide⟩ (by decide) dX7_init_183 (tgt := 220) (by decide) ?_
  refine m_aload_n (pc := 186) a 1 dX7_init_186 rfl rfl ?_
  refine m_get (pc := 187) a 0 hp vc7 w6 w5 (by decide) (v := Value.ref q1) rfl dX7_init_187 ?_
  refine m_bipush (pc := 190) a dX7_init_190 (by decide) ?_
  refine m_bipush (pc := 192) a dX7_init_192 (by decide) ?_
  refine m_iload_n (pc := 194) a 0 dX7_init_194 rfl rfl ?_
  refine m_imul (pc := 195) a (z := 32) (by decide) dX7_init_195 ?_
  refine m_iadd (pc := 196) a (z := 47) (by decide) dX7_init_196 ?_
  refine m_iload_n (pc := 197) a 0 dX7_init_197 rfl rfl ?_
  refine m_iastS (pc := 198) a (Nat.le_of_ble_eq_true rfl) (by decide) (by decide) dX7_init_198 ?_
  refine m_aload_n (pc := 199) a 1 dX7_init_199 rfl rfl ?_
  refine m_get (pc := 200) a 0 hp vc7 w6 w5 (by decide) (v := Value.ref q1) rfl dX7_init_200 ?_
  refine m_bipush (pc := 203) a dX7_init_203 (by decide) ?_
  refine m_bipush (pc := 205) a dX7_init_205 (by decide) ?_
  refine m_iload_n (pc := 207) a 0 dX7_init_207 rfl rfl ?_
  refine m_imul (pc := 208) a (z := 32) (by decide) dX7_init_208 ?_
  refine m_iadd (pc := 209) a (z := 47) (by decide) dX7_init_209 ?_
  refine m_iconst (pc := 210) a dX7_init_210 ?_
  refine m_iadd (pc := 211) a (z := 48) (by decide) dX7_init_211 ?_
  refine m_iconst (pc := 212) a dX7_init_212 ?_
  refine m_iastS (pc := 213) a (Nat.le_of_ble_eq_true rfl) (by decide) (by decide) dX7_init_213 ?_
  refine m_iinc (pc := 214) a (y := 5) (ls1 := [(1, vI 5), (0, Value.ref h)]) 0 dX7_init_214 rfl (by decide) (by decide) rfl ?_
  refine m_goto (pc := 217) a dX7_init_217 (tgt := 180) (by decide) ?_
  refine m_iload_n (pc := 180) a 0 dX7_init_180 rfl rfl ?_
  refine m_bipush (pc := 181) a dX7_init_181 (by decide) ?_
  refine m_geF (pc := 183) a ⟨by decide, by decide⟩ ⟨by decide, by decide⟩ (by decide) dX7_init_183 (tgt := 220) (by decide) ?_
  refine m_aload_n (pc := 186) a 1 dX7_init_186 rfl rfl ?_
  refine m_get (pc := 187) a 0 hp vc7 w6 w5 (by decide) (v := Value.ref q1) rfl dX7_init_187 ?_
  refine m_bipush (pc := 190) a dX7_init_190 (by decide) ?_
  refine m_bipush (pc := 192) a dX7_init_192 (by decide) ?_
  refine m_iload_n (pc := 194) a 0 dX7_init_194 rfl rfl ?_
  refine m_imul (pc := 195) a (z := 40) (by decide) dX7_init_195 ?_
  refine m_iadd (pc := 196) a (z := 55) (by decide) dX7_init_196 ?_
  refine m_iload_n (pc := 197) a 0 dX7_init_197 rfl rfl ?_
  refine m_iastS (pc := 198) a (Nat.le_of_ble_eq_true rfl) (by decide) (by decide) dX7_init_198 ?_
  refine m_aload_n (pc := 199) a 1 dX7_init_199 rfl rfl ?_
  refine m_get (pc := 200) a 0 hp vc7 w6 w5 (by decide) (v := Value.ref q1) rfl dX7_init_200 ?_
  refine m_bipush (pc := 203) a dX7_init_203 (by decide) ?_
  refine m_bipush (pc := 205) a dX7_init_205 (by decide) ?_
  refine m_iload_n (pc := 207) a 0 dX7_init_207 rfl rfl ?_
  refine m_imul (pc := 208) a (z := 40) (by decide) dX7_init_208 ?_
  refine m_iadd (pc := 209) a (z := 55) (by decide) dX7_init_209 ?_
  refine m_iconst (pc := 210) a dX7_init_210 ?_
  refine m_iadd (pc := 211) a (z := 56) (by decide) dX7_init_211 ?_
  refine m_iconst (pc := 212) a dX7_init_212 ?_
  refine m_iastS (pc := 213) a (Nat.le_of_ble_eq_true rfl) (by decide) (by decide) dX7_init_213 ?_
  refine m_iinc (pc := 214) a (y := 6) (ls1 := [(1, vI 6), (0, Value.ref h)]) 0 dX7_init_214 rfl (by decide) (by decide) rfl ?_
  refine m_goto (pc := 217) a dX7_init_217 (tgt := 180) (by decide) ?_
  refine m_iload_n (pc := 180) a 0 dX7_init_180 rfl rfl ?_
  refine m_bipush (pc := 181) a dX7_init_181 (by decide) ?_
  refine m_geF (pc := 183) a ⟨by decide, by decide⟩ ⟨by decide, by decide⟩ (by decide) dX7_init_183 (tgt := 220) (by decide) ?_
  refine m_aload_n (pc := 186) a 1 dX7_init_186 rfl rfl ?_
  refine m_get (pc := 187) a 0 hp vc7 w6 w5 (by decide) (v := Value.ref q1) rfl dX7_init_187 ?_
  refine m_bipush (pc := 190) a dX7_init_190 (by decide) ?_
  refine m_bipush (pc := 192) a dX7_init_192 (by decide) ?_
  refine m_iload_n (pc := 194) a 0 dX7_init_194 rfl rfl ?_
  refine m_imul (pc := 195) a (z := 48) (by decide) dX7_init_195 ?_
  refine m_iadd (pc := 196) a (z := 63) (by decide) dX7_init_196 ?_
  refine m_iload_n (pc := 197) a 0 dX7_init_197 rfl rfl ?_
  refine m_iastS (pc := 198) a (Nat.le_of_ble_eq_true rfl) (by decide) (by decide) dX7_init_198 ?_
  refine m_aload_n (pc := 199) a 1 dX7_init_199 rfl rfl ?_
  refine m_get (pc := 200) a 0 hp vc7 w6 w5 (by decide) (v := Value.ref q1) rfl dX7_init_200 ?_
  refine m_bipush (pc := 203) a dX7_init_203 (by decide) ?_
  refine m_bipush (pc := 205) a dX7_init_205 (by decide) ?_
  refine m_iload_n (pc := 207) a 0 dX7_init_207 rfl rfl ?_
  refine m_imul (pc := 208) a (z := 48) (by decide) dX7_init_208 ?_
  refine m_iadd (pc := 209) a (z := 63) (by decide) dX7_init_209 ?_
  refine m_iconst (pc := 210) a dX7_init_210 ?_
  refine m_iadd (pc := 211) a (z := 64) (by decide) dX7_init_211 ?_
  refine m_iconst (pc := 212) a dX7_init_212 ?_
  refine m_iastS (pc := 213) a (Nat.le_of_ble_eq_true rfl) (by decide) (by decide) dX7_init_213 ?_
  refine m_iinc (pc := 214) a (y := 7) (ls1 := [(1, vI 7), (0, Value.ref h)]) 0 dX7_init_214 rfl (by decide) (by decide) rfl ?_
  refine m_goto (pc := 217) a dX7_init_217 (tgt := 180) (by decide) ?_
  refine m_iload_n (pc := 180) a 0 dX7_init_180 rfl rfl ?_
  refine m_bipush (pc := 181) a dX7_init_181 (by decide) ?_
  refine m_geF (pc := 183) a ⟨by decide, by decide⟩ ⟨by decide, by decide⟩ (by decide) dX7_init_183 (tgt := 220) (by decide) ?_
  refine m_aload_n (pc := 186) a 1 dX7_init_186 rfl rfl ?_
  refine m_get (pc := 187) a 0 hp vc7 w6 w5 (by decide) (v := Value.ref q1) rfl dX7_init_187 ?_
  refine m_bipush (pc := 190) a dX7_init_190 (by decide) ?_
  refine m_bipush (pc := 192) a dX7_init_192 (by decide) ?_
  refine m_iload_n (pc := 194) a 0 dX7_init_194 rfl rfl ?_
  refine m_imul (pc := 195) a (z := 56) (by decide) dX7_init_195 ?_
  refine m_iadd (pc := 196) a (z := 71) (by decide) dX7_init_196 ?_
  refine m_iload_n (pc := 197) a 0 dX7_init_197 rfl rfl ?_
  refine m_iastS (pc := 198) a (Nat.le_of_ble_eq_true rfl) (by decide) (by decide) dX7_init_198 ?_
  refine m_aload_n (pc := 199) a 1 dX7_init_199 rfl rfl ?_
  refine m_get (pc := 200) a 0 hp vc7 w6 w5 (by decide) (v := Value.ref q1) rfl dX7_init_200 ?_
  refine m_bipush (pc := 203) a dX7_init_203 (by decide) ?_
  refine m_bipush (pc := 205) a dX7_init_205 (by decide) ?_
  refine m_iload_n (pc := 207) a 0 dX7_init_207 rfl rfl ?_
  refine m_imul (pc := 208) a (z := 56) (by decide) dX7_init_208 ?_
  refine m_iadd (pc := 209) a (z := 71) (by decide) dX7_init_209 ?_
  refine m_iconst (pc := 210) a dX7_init_210 ?_
  refine m_iadd (pc := 211) a (z := 72) (by decide) dX7_init_211 ?_
  refine m_iconst (pc := 212) a dX7_init_212 ?_
  refine m_iastS (pc := 213) a (Nat.le_of_ble_eq_true rfl) (by decide) (by decide) dX7_init_213 ?_
  refine m_iinc (pc := 214) a (y := 8) (ls1 := [(1, vI 8), (0, Value.ref h)]) 0 dX7_init_214 rfl (by decide) (by decide) rfl ?_
  refine m_goto (pc := 217) a dX7_init_217 (tgt := 180) (by decide) ?_
  refine m_iload_n (pc := 180) a 0 dX7_init_180 rfl rfl ?_
  refine m_bipush (pc := 181) a dX7_init_181 (by decide) ?_
  refine m_geF (pc := 183) a ⟨by decide, by decide⟩ ⟨by decide, by decide⟩ (by decide) dX7_init_183 (tgt := 220) (by decide) ?_
  refine m_aload_n (pc := 186) a 1 dX7_init_186 rfl rfl ?_
  refine m_get (pc := 187) a 0 hp vc7 w6 w5 (by decide) (v := Value.ref q1) rfl dX7_init_187 ?_
  refine m_bipush (pc := 190) a dX7_init_190 (by decide) ?_
  refine m_bipush (pc := 192) a dX7_init_192 (by decide) ?_
  refine m_iload_n (pc := 194) a 0 dX7_init_194 rfl rfl ?_
  refine m_imul (pc := 195) a (z := 64) (by decide) dX7_init_195 ?_
  refine m_iadd (pc := 196) a (z := 79) (by decide) dX7_init_196 ?_
  refine m_iload_n (pc := 197) a 0 dX7_init_197 rfl rfl ?_
  refine m_iastS (pc := 198) a (Nat.le_of_ble_eq_true rfl) (by decide) (by decide) dX7_init_198 ?_
  refine m_aload_n (pc := 199) a 1 dX7_init_199 rfl rfl ?_
  refine m_get (pc := 200) a 0 hp vc7 w6 w5 (by decide) (v := Value.ref q1) rfl dX7_init_200 ?_
  refine m_bipush (pc := 203) a dX7_init_203 (by decide) ?_
  refine m_bipush (pc := 205) a dX7_init_205 (by decide) ?_
  refine m_iload_n (pc := 207) a 0 dX7_init_207 rfl rfl ?_
  refine m_imul (pc := 208) a (z := 64) (by decide) dX7_init_208 ?_
  refine m_iadd (pc := 209) a (z := 79) (by decide) dX7_init_209 ?_
  refine m_iconst (pc := 210) a dX7_init_210 ?_
  refine m_iadd (pc := 211) a (z := 80) (by decide) dX7_init_211 ?_
  refine m_iconst (pc := 212) a dX7_init_212 ?_
  refine m_iastS (pc := 213) a (Nat.le_of_ble_eq_true rfl) (by decide) (by decide) dX7_init_213 ?_
  refine m_iinc (pc := 214) a (y := 9) (ls1 := [(1, vI 9), (0, Value.ref h)]) 0 dX7_init_214 rfl (by decide) (by decide) rfl ?_
  refine m_goto (pc := 217) a dX7_init_217 (tgt := 180) (by decide) ?_
  refine m_iload_n (pc := 180) a 0 dX7_init_180 rfl rfl ?_
  refine m_bipush (pc := 181) a dX7_init_181 (by decide) ?_
  refine m_geF (pc := 183) a ⟨by decide, by decide⟩ ⟨by decide, by decide⟩ (by decide) dX7_init_183 (tgt := 220) (by decide) ?_
  refine m_aload_n (pc := 186) a 1 dX7_init_186 rfl rfl ?_
  refine m_get (pc := 187) a 0 hp vc7 w6 w5 (by decide) (v := Value.ref q1) rfl dX7_init_187 ?_
  refine m_bipush (pc := 190) a dX7_init_190 (by decide) ?_
  refine m_bipush (pc := 192) a dX7_init_192 (by decide) ?_
  refine m_iload_n (pc := 194) a 0 dX7_init_194 rfl rfl ?_
  refine m_imul (pc := 195) a (z := 72) (by decide) dX7_init_195 ?_
  refine m_iadd (pc := 196) a (z := 87) (by decide) dX7_init_196 ?_
  refine m_iload_n (pc := 197) a 0 dX7_init_197 rfl rfl ?_
  refine m_iastS (pc := 198) a (Nat.le_of_ble_eq_true rfl) (by decide) (by decide) dX7_init_198 ?_
  refine m_aload_n (pc := 199) a 1 dX7_init_199 rfl rfl ?_
  refine m_get (pc := 200) a 0 hp vc7 w6 w5 (by decide) (v := Value.ref q1) rfl dX7_init_200 ?_
  refine m_bipush (pc := 203) a dX7_init_203 (by decide) ?_
  refine m_bipush (pc := 205) a dX7_init_205 (by decide) ?_
  refine m_iload_n (pc := 207) a 0 dX7_init_207 rfl rfl ?_
  refine m_imul (pc := 208) a (z := 72) (by decide) dX7_init_208 ?_
  refine m_iadd (pc := 209) a (z := 87) (by decide) dX7_init_209 ?_
  refine m_iconst (pc := 210) a dX7_init_210 ?_
  refine m_iadd (pc := 211) a (z := 88) (by decide) dX7_init_211 ?_
  refine m_iconst (pc := 212) a dX7_init_212 ?_
  refine m_iastS (pc := 213) a (Nat.le_of_ble_eq_true rfl) (by decide) (by decide) dX7_init_213 ?_
  refine m_iinc (pc := 214) a (y := 10) (ls1 := [(1, vI 10), (0, Value.ref h)]) 0 dX7_init_214 rfl (by decide) (by decide) rfl ?_
  refine m_goto (pc := 217) a dX7_init_217 (tgt := 180) (by decide) ?_
  refine m_iload_n (pc := 180) a 0 dX7_init_180 rfl rfl ?_
  refine m_bipush (pc := 181) a dX7_init_181 (by decide) ?_
  refine m_geF (pc := 183) a ⟨by decide, by decide⟩ ⟨by decide, by decide⟩ (by decide) dX7_init_183 (tgt := 220) (by decide) ?_
  refine m_aload_n (pc := 186) a 1 dX7_init_186 rfl rfl ?_
  refine m_get (pc := 187) a 0 hp vc7 w6 w5 (by decide) (v := Value.ref q1) rfl dX7_init_187 ?_
  refine m_bipush (pc := 190) a dX7_init_190 (by decide) ?_
  refine m_bipush (pc := 192) a dX7_init_192 (by decide) ?_
  refine m_iload_n (pc := 194) a 0 dX7_init_194 rfl rfl ?_
  refine m_imul (pc := 195) a (z := 80) (by decide) dX7_init_195 ?_
  refine m_iadd (pc := 196) a (z := 95) (by decide) dX7_init_196 ?_
  refine m_iload_n (pc := 197) a 0 dX7_init_197 rfl rfl ?_
  refine m_iastS (pc := 198) a (Nat.le_of_ble_eq_true rfl) (by decide) (by decide) dX7_init_198 ?_
  refine m_aload_n (pc := 199) a 1 dX7_init_199 rfl rfl ?_
  refine m_get (pc := 200) a 0 hp vc7 w6 w5 (by decide) (v := Value.ref q1) rfl dX7_init_200 ?_
  refine m_bipush (pc := 203) a dX7_init_203 (by decide) ?_
  refine m_bipush (pc := 205) a dX7_init_205 (by decide) ?_
  refine m_iload_n (pc := 207) a 0 dX7_init_207 rfl rfl ?_
  refine m_imul (pc := 208) a (z := 80) (by decide) dX7_init_208 ?_
  refine m_iadd (pc := 209) a (z := 95) (by decide) dX7_init_209 ?_
  refine m_iconst (pc := 210) a dX7_init_210 ?_
  refine m_iadd (pc := 211) a (z := 96) (by decide) dX7_init_211 ?_
  refine m_iconst (pc := 212) a dX7_init_212 ?_
  refine m_iastS (pc := 213) a (Nat.le_of_ble_eq_true rfl) (by decide) (by decide) dX7_init_213 ?_
  refine m_iinc (pc := 214) a (y := 11) (ls1 := [(1, vI 11), (0, Value.ref h)]) 0 dX7_init_214 rfl (by decide) (by decide) rfl ?_
  refine m_goto (pc := 217) a dX7_init_217 (tgt := 180) (by decide) ?_
  refine m_iload_n (pc := 180) a 0 dX7_init_180 rfl rfl ?_
  refine m_bipush (pc := 181) a dX7_init_181 (by decide) ?_
  refine m_geF (pc := 183) a ⟨by decide, by decide⟩ ⟨by decide, by decide⟩ (by decide) dX7_init_183 (tgt := 220) (by decide) ?_
  refine m_aload_n (pc := 186) a 1 dX7_init_186 rfl rfl ?_
  refine m_get (pc := 187) a 0 hp vc7 w6 w5 (by decide) (v := Value.ref q1) rfl dX7_init_187 ?_
  refine m_bipush (pc := 190) a dX7_init_190 (by decide) ?_
  refine m_bipush (pc := 192) a dX7_init_192 (by decide) ?_
  refine m_iload_n (pc := 194) a 0 dX7_init_194 rfl rfl ?_
  refine m_imul (pc := 195) a (z := 88) (by decide) dX7_init_195 ?_
  refine m_iadd (pc := 196) a (z := 103) (by decide) dX7_init_196 ?_
  refine m_iload_n (pc := 197) a 0 dX7_init_197 rfl rfl ?_
  refine m_iastS (pc := 198) a (Nat.le_of_ble_eq_true rfl) (by decide) (by decide) dX7_init_198 ?_
  refine m_aload_n (pc := 199) a 1 dX7_init_199 rfl rfl ?_
  refine m_get (pc := 200) a 0 hp vc7 w6 w5 (by decide) (v := Value.ref q1) rfl dX7_init_200 ?_
  refine m_bipush (pc := 203) a dX7_init_203 (by decide) ?_
  refine m_bipush (pc := 205) a dX7_init_205 (by decide) ?_
  refine m_iload_n (pc := 207) a 0 dX7_init_207 rfl rfl ?_
  refine m_imul (pc := 208) a (z := 88) (by decide) dX7_init_208 ?_
  refine m_iadd (pc := 209) a (z := 103) (by decide) dX7_init_209 ?_
  refine m_iconst (pc := 210) a dX7_init_210 ?_
  refine m_iadd (pc := 211) a (z := 104) (by decide) dX7_init_211 ?_
  refine m_iconst (pc := 212) a dX7_init_212 ?_
  refine m_iastS (pc := 213) a (Nat.le_of_ble_eq_true rfl) (by decide) (by decide) dX7_init_213 ?_
  refine m_iinc (pc := 214) a (y := 12) (ls1 := [(1, vI 12), (0, Value.ref h)]) 0 dX7_init_214 rfl (by decide) (by decide) rfl ?_
  refine m_goto (pc := 217) a dX7_init_217 (tgt := 180) (by decide) ?_
  refine m_iload_n (pc := 180) a 0 dX7_init_180 rfl rfl ?_
  refine m_bipush (pc := 181) a dX7_init_181 (by decide) ?_
  refine m_geT (pc := 183) a ⟨by decide, by decide⟩ ⟨by decide, by decide⟩ (by decide) dX7_init_183 (tgt := 220) (by decide) ?_
  exact m_ret (pc := 220) a (fun k => ([h, q1, q2, q3, q4, q5, q6, q7, q8, q9, q10, q11, q12, q13, q14] : List Nat).getD k 0) hr (Nat.le_of_ble_eq_true rfl) (Nat.le_of_ble_eq_true rfl) rfl dX7_init_220

