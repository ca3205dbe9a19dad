section START
variable {s : State} {args : Array Value}
theorem ar_int (h : (Cond.arrayClass .int).before args s = true) : ∃ cA : ClassId, ArrOfT s cA .int ∧ va_RA s cA .int := by
  obtain ⟨c, k, comp, h1, h2, h3⟩ := Cond.arrayClass_spec h
  exact ⟨c, fun n z => ⟨(fun k h => by cases h), k, h2, comp, h3⟩, h1⟩
theorem ar_boolean (h : (Cond.arrayClass .boolean).before args s = true) : ∃ cA : ClassId, ArrOfT s cA .boolean ∧ va_RA s cA .boolean := by
  obtain ⟨c, k, comp, h1, h2, h3⟩ := Cond.arrayClass_spec h
  exact ⟨c, fun n z => ⟨(fun k h => by cases h), k, h2, comp, h3⟩, h1⟩
theorem ar_obj {C : String} (h : va_AO C s) : ∃ cA : ClassId, ArrOfT s cA (.object C) ∧ va_RA s cA (.object C) := by
  obtain ⟨comp, c, k, h1, h2, h3, h4, h5⟩ := Cond.arrayOver_spec h
  exact ⟨c, fun n z => ⟨(fun k h => by cases h), k, h3, comp, h4⟩, k, comp, h3, h4, h1, h5⟩
theorem st_str (hts : ∀ w ∈ lw_tbl, w.before args s = true) (hs : ∀ c ∈ flatC (Jvm.Cond.and given_1 narrow_1), c.before args s = true) {k : Nat} {t : String} (h1 : Cond.stringRef "SightLegend" k t ∈ lw_tbl) (h2 : Cond.exactly (.string "SightLegend" k) "java/lang/String" ∈ flatC (Jvm.Cond.and given_1 narrow_1)) : ∃ sa : Nat, vk_R "SightLegend" k t sa s := by
  obtain ⟨a, c, cell, kc, e1, -⟩ := Cond.exactly_spec (hs _ h2)
  exact ⟨a, vk_R.of (hts _ h1) e1⟩
theorem st_m54 : Cond.stringRef "SightLegend" 54 "the map is full" ∈ lw_tbl := by decide +kernel
theorem st_n54 : Cond.exactly (.string "SightLegend" 54) "java/lang/String" ∈ flatC (Jvm.Cond.and given_1 narrow_1) := by decide +kernel
theorem st_m94 : Cond.stringRef "SightLegend" 94 "the setting is out of its range" ∈ lw_tbl := by decide +kernel
theorem st_n94 : Cond.exactly (.string "SightLegend" 94) "java/lang/String" ∈ flatC (Jvm.Cond.and given_1 narrow_1) := by decide +kernel
theorem st_m108 : Cond.stringRef "SightLegend" 108 "there is no such group" ∈ lw_tbl := by decide +kernel
theorem st_n108 : Cond.exactly (.string "SightLegend" 108) "java/lang/String" ∈ flatC (Jvm.Cond.and given_1 narrow_1) := by decide +kernel
theorem st_m114 : Cond.stringRef "SightLegend" 114 "the limit is out of its range" ∈ lw_tbl := by decide +kernel
theorem st_n114 : Cond.exactly (.string "SightLegend" 114) "java/lang/String" ∈ flatC (Jvm.Cond.and given_1 narrow_1) := by decide +kernel
theorem st_m123 : Cond.stringRef "SightLegend" 123 "the kind has all its limits" ∈ lw_tbl := by decide +kernel
theorem st_n123 : Cond.exactly (.string "SightLegend" 123) "java/lang/String" ∈ flatC (Jvm.Cond.and given_1 narrow_1) := by decide +kernel
theorem st_m155 : Cond.stringRef "SightLegend" 155 "there is no such line" ∈ lw_tbl := by decide +kernel
theorem st_n155 : Cond.exactly (.string "SightLegend" 155) "java/lang/String" ∈ flatC (Jvm.Cond.and given_1 narrow_1) := by decide +kernel
theorem st_m286 : Cond.stringRef "SightLegend" 286 "there is no such sign" ∈ lw_tbl := by decide +kernel
theorem st_n286 : Cond.exactly (.string "SightLegend" 286) "java/lang/String" ∈ flatC (Jvm.Cond.and given_1 narrow_1) := by decide +kernel
theorem st_m288 : Cond.stringRef "SightLegend" 288 "there is no such kind" ∈ lw_tbl := by decide +kernel
theorem st_n288 : Cond.exactly (.string "SightLegend" 288) "java/lang/String" ∈ flatC (Jvm.Cond.and given_1 narrow_1) := by decide +kernel
theorem st_m290 : Cond.stringRef "SightLegend" 290 "an argument is out of its range" ∈ lw_tbl := by decide +kernel
theorem st_n290 : Cond.exactly (.string "SightLegend" 290) "java/lang/String" ∈ flatC (Jvm.Cond.and given_1 narrow_1) := by decide +kernel
theorem st_m292 : Cond.stringRef "SightLegend" 292 "the window has no such size" ∈ lw_tbl := by decide +kernel
theorem st_n292 : Cond.exactly (.string "SightLegend" 292) "java/lang/String" ∈ flatC (Jvm.Cond.and given_1 narrow_1) := by decide +kernel
theorem st_cast : ∀ E ∈ exs, Cond.castable E E ∈ lw_tbl := by decide +kernel
theorem st_decl : ∀ E ∈ sups, Cond.declares (Bundle.initS E) ∈ lw_tbl := by decide +kernel
theorem st_nc : ∀ E ∈ exs, ∀ F ∈ exs, E ≠ F → Cond.not (.castable E F) ∈ flatC (Jvm.Cond.and given_1 narrow_1) := by decide +kernel
theorem st_h0 : Cond.laysStatic Bundle.tN "UNASSIGNED_STACK" Bundle.steD ∈ lw_tbl := by decide +kernel
theorem st_h1 : Cond.initialized Bundle.tN ∈ lw_tbl := by decide +kernel
theorem st_h2 : Cond.isRef (.static Bundle.tN "UNASSIGNED_STACK" Bundle.steD) ∈ flatC (Jvm.Cond.and given_1 narrow_1) := by decide +kernel
theorem st_h3 : Cond.laysStatic Bundle.tN "SUPPRESSED_SENTINEL" Bundle.listD ∈ lw_tbl := by decide +kernel
theorem st_h4 : Cond.isRef (.static Bundle.tN "SUPPRESSED_SENTINEL" Bundle.listD) ∈ flatC (Jvm.Cond.and given_1 narrow_1) := by decide +kernel
theorem st_h5 : Cond.laysStatic "SightLegend" "HIGHEST_SETTING" "[I" ∈ lw_tbl := by decide +kernel
theorem st_h6 : Cond.initialized "SightLegend" ∈ lw_tbl := by decide +kernel
theorem st_h7 : Cond.arrayOf (.static "SightLegend" "HIGHEST_SETTING" "[I") .int ∈ flatC (Jvm.Cond.and given_1 narrow_1) := by decide +kernel
theorem st_h8 : Cond.eq (.length (.static "SightLegend" "HIGHEST_SETTING" "[I")) (.int (4 : Int32)) ∈ flatC (Jvm.Cond.and given_1 narrow_1) := by decide +kernel
theorem st_h9 : ∀ j : Nat, j < 4 → Cond.eq (.elem (.static "SightLegend" "HIGHEST_SETTING" "[I") (.int (Int32.ofNat j))) (.int (iI (match j with | 0 => 6 | 1 => 4 | 2 => 60 | _ => 20))) ∈ flatC (Jvm.Cond.and given_1 narrow_1) := by decide +kernel
theorem st_F {A : Nat → Prop} (hts : ∀ w ∈ lw_tbl, w.before args s = true) (hgv : (Jvm.Cond.and given_1 narrow_1).before args s = true) (hA : ∀ a : Nat, a < s.heap.size → ¬ A a) : StF A s s.heap := by
  have hs := flat_of_before _ hgv
  refine ⟨vx_Zqof (hts _ st_h0) (hts _ st_h1) (hs _ st_h2) hA, vx_Zqof (hts _ st_h3) (hts _ st_h1) (hs _ st_h4) hA, ?_, ?_, fun E hE => va_Nw.of rfl (hts _ (st_cast E hE)), fun E hE => va_Nw.of rfl (hts _ (st_decl E hE)), fun E hE F hF hn => va_Nc.of (hs _ (st_nc E hE F hF hn))⟩
  · obtain ⟨t, ht, hT⟩ := va_Tof (f := hset) (N := 4) (A := A) (by decide) (hs _ st_h7) (va_eqt (hs _ st_h8)) (fun j hj => va_eqt (hs _ (st_h9 j hj))) hA
    exact ⟨t, va_Zof (hts _ st_h5) (hts _ st_h6) ht hA, hT⟩
  · exact List.forall_mem_cons.mpr ⟨st_str hts hs st_m54 st_n54, List.forall_mem_cons.mpr ⟨st_str hts hs st_m94 st_n94, List.forall_mem_cons.mpr ⟨st_str hts hs st_m108 st_n108, List.forall_mem_cons.mpr ⟨st_str hts hs st_m114 st_n114, List.forall_mem_cons.mpr ⟨st_str hts hs st_m123 st_n123, List.forall_mem_cons.mpr ⟨st_str hts hs st_m155 st_n155, List.forall_mem_cons.mpr ⟨st_str hts hs st_m286 st_n286, List.forall_mem_cons.mpr ⟨st_str hts hs st_m288 st_n288, List.forall_mem_cons.mpr ⟨st_str hts hs st_m290 st_n290, List.forall_mem_cons.mpr ⟨st_str hts hs st_m292 st_n292, fun _ h => absurd h List.not_mem_nil⟩⟩⟩⟩⟩⟩⟩⟩⟩⟩
theorem st_ao : Cond.arrayOver (.object "SightLegend$MapState") ∈ lw_tbl := by decide +kernel
theorem st_l1 : Cond.methodLinkNest RX6 18 yX1_init RX6 ∈ lw_tbl := by decide +kernel
theorem st_l2 : Cond.methodLinkNest RX6 31 yX5_init RX6 ∈ lw_tbl := by decide +kernel
theorem st_l3 : Cond.methodLinkNest RX1 20 yX4_init RX6 ∈ lw_tbl := by decide +kernel
theorem st_l4 : Cond.methodLinkNest RX1 27 yX2_init RX6 ∈ lw_tbl := by decide +kernel
theorem st_l5 : Cond.methodLinkNest RX1 37 yX0_init RX6 ∈ lw_tbl := by decide +kernel
set_option maxRecDepth 100000 in
set_option maxHeartbeats 4000000 in
theorem start0 {p : Program} {e : Env} {s : State} {m : MethodId} {below : List Frame} {meth : Method} {c : Code} (l : Launch) (hflags : l.flags = flags0) {b L : Nat} {xs : Nat → Int32} (hL : L ≤ 260) (C0 : lw_At p s m meth c b L xs) (hf : f_L_law (L : Int) (fun i => (xs i.toNat).toInt) σ0) : W p l e room_1 s m #[Value.ref b] below meth c s.heap [] 0 0 (lw_Z below #[Value.ref b] s) (entryFrame m ([Value.ref b] : List Value).toArray 9) := by
  obtain ⟨hx, hb, hr, hml, hown, hts0, hX, hbl, hlocks, hgv⟩ := id C0
  have hts : ∀ w ∈ WW (Cond.initialized RX6), w.before #[Value.ref b] s = true := fun w hw => (List.mem_cons.mp hw).elim (fun h => h ▸ hts0 _ (IN_1 _ (by decide +kernel))) (fun h => hts0 w (IN_all w h))
  obtain ⟨c0, n0, hk0⟩ := u_known (C := RX0) (T := TX0) (N := 6) (n := 6) hts0 (fun w h => IN_all w (inlX0 w h)) (hts0 (.instantiable RX0 6) (IN_3 _ (by decide +kernel)))
  obtain ⟨c1, n1, hk1⟩ := u_known (C := RX1) (T := TX1) (N := 12) (n := 12) hts0 (fun w h => IN_all w (inlX1 w h)) (hts0 (.instantiable RX1 12) (IN_1 _ (by decide +kernel)))
  obtain ⟨c2, n2, hk2⟩ := u_known (C := RX2) (T := TX2) (N := 14) (n := 14) hts0 (fun w h => IN_all w (inlX2 w h)) (hts0 (.instantiable RX2 14) (IN_3 _ (by decide +kernel)))
  obtain ⟨c3, n3, hk3⟩ := u_known (C := RX3) (T := TX3) (N := 13) (n := 13) hts0 (fun w h => IN_all w (inlX3 w h)) (hts0 (.instantiable RX3 13) (IN_1 _ (by decide +kernel)))
  obtain ⟨c4, n4, hk4⟩ := u_known (C := RX4) (T := TX4) (N := 6) (n := 6) hts0 (fun w h => IN_all w (inlX4 w h)) (hts0 (.instantiable RX4 6) (IN_3 _ (by decide +kernel)))
  obtain ⟨c5, n5, hk5⟩ := u_known (C := RX5) (T := TX5) (N := 5) (n := 5) hts0 (fun w h => IN_all w (inlX5 w h)) (hts0 (.instantiable RX5 5) (IN_1 _ (by decide +kernel)))
  obtain ⟨c6, n6, hk6⟩ := u_known (C := RX6) (T := TX6) (N := 8) (n := 8) hts0 (fun w h => IN_all w (inlX6 w h)) (hts0 (.instantiable RX6 8) (IN_1 _ (by decide +kernel)))
  obtain ⟨t0, ta0, tb0⟩ := ar_int (hts0 (.arrayClass .int) (IN_1 _ (by decide +kernel)))
  obtain ⟨t1, ta1, tb1⟩ := ar_boolean (hts0 (.arrayClass .boolean) (IN_2 _ (by decide +kernel)))
  have hao : va_AO "SightLegend$MapState" s := va_AO.of (hts0 (.arrayOver (.object "SightLegend$MapState")) st_ao)
  obtain ⟨t2, ta2, tb2⟩ := ar_obj hao
  obtain ⟨D, hD0⟩ : ∃ D : va_G, ∀ (k : Nat) (q : vw_C), vwCl[k]? = some q → u_Kn s q.1 q.2.1 q.2.2 (D.1 k) (D.2 k) := by
    refine ⟨(fun k => match k with | 0 => c0 | 1 => c1 | 2 => c2 | 3 => c3 | 4 => c4 | 5 => c5 | _ => c6, fun k => match k with | 0 => n0 | 1 => n1 | 2 => n2 | 3 => n3 | 4 => n4 | 5 => n5 | _ => n6), ?_⟩
    intro k q hq
    match k, hq with
    | 0, hq => cases hq; exact hk0
    | 1, hq => cases hq; exact hk1
    | 2, hq => cases hq; exact hk2
    | 3, hq => cases hq; exact hk3
    | 4, hq => cases hq; exact hk4
    | 5, hq => cases hq; exact hk5
    | 6, hq => cases hq; exact hk6
    | k + 7, hq => simp [vwCl] at hq
  obtain ⟨X, hK⟩ : ∃ X : XI, va_K D vwCl (tysO X) s := by
    refine ⟨(t0, t1, t2), hD0, ?_⟩
    intro k q hq
    match k, hq with
    | 0, hq => cases hq; exact ⟨ta0, tb0⟩
    | 1, hq => cases hq; exact ⟨ta1, tb1⟩
    | 2, hq => cases hq; exact ⟨ta2, tb2⟩
    | k + 3, hq => simp [tysO] at hq
  have hl0 : l.stackTraces = false := by rw [Launch.stackTraces, hflags]; decide
  have a : AMK p l e s m #[Value.ref b] meth c RL (WW (Cond.initialized RX6)) cL_law 9 D X (fun q : Nat => s.heap.size ≤ q) := ⟨⟨hx, hb, hml, hown, hts⟩, hK, fun q h => h, hlocks, hao, va_Nw.of rfl (hts0 _ st_l1), va_Nw.of rfl (hts0 _ st_l2), va_Nw.of rfl (hts0 _ st_l3), va_Nw.of rfl (hts0 _ st_l4), va_Nw.of rfl (hts0 _ st_l5)⟩
  rw [lg_entry_eq]
  suffices hMK : MK p l e room_1 s m #[Value.ref b] below meth c 0 0 (lw_Z below #[Value.ref b] s) D X 9 (fun q : Nat => s.heap.size ≤ q) 0 [(0, Value.ref b)] [] (OW [] 0 0 0 [] []) from hMK s.heap [] _ (fun k q h => by simp [OW] at h) ⟨fun i j p q h => by simp [OW] at h, fun k q h => by simp [OW] at h⟩ va_S.rf (lv_entry [Value.ref b] (Nat.le_of_ble_eq_true rfl))
  refine m_new (pc := 0) a (fun w h => List.mem_cons_of_mem _ (inlX6 w h)) tyX6 tyX6_ok (hts (Cond.classLink RL 106 RX6) (List.mem_cons_of_mem _ (GL_1 _ (by decide +kernel)))) (hts (Cond.instantiable RX6 8) (List.mem_cons_of_mem _ (GL_1 _ (by decide +kernel)))) (hts (Cond.initialized RX6) (List.mem_cons_of_mem _ (GL_1 _ (by decide +kernel)))) vc6 (gs := [Value.null, Value.null, Value.null, Value.null, Value.null, Value.null, vI 0, vI 0]) (by decide +kernel) (Nat.le_of_ble_eq_true rfl) (Nat.le_of_ble_eq_true rfl) dL_law_0 (fun q1 => ?_)
  refine m_dup (pc := 3) a rfl dL_law_3 ?_
  refine m_call (pc := 4) a (fun sz => c_X6_init hl0 (h := q1) ow_last sz) (cwI 0 hts (gl_W (GL_1 _ (by decide +kernel))) rfl rfl rfl (hts (Cond.initialized RX6) (List.mem_cons_of_mem _ (GL_1 _ (by decide +kernel)))) (hts (Cond.methodLink RL 191 yX6_init) (List.mem_cons_of_mem _ (GL_1 _ (by decide +kernel)))) (hts (Cond.instanceMethod yX6_init) (List.mem_cons_of_mem _ (GL_1 _ (by decide +kernel)))) rfl (by decide +kernel) ⟨Nat.le_of_ble_eq_true rfl, Nat.le_of_ble_eq_true rfl⟩) (Nat.le_of_ble_eq_true rfl) ⟨Nat.le_of_ble_eq_true rfl, Nat.le_of_ble_eq_true rfl⟩ dL_law_4 (fun u1 => ?_)
  refine m_astore_n (pc := 7) a (ls1 := [(1, Value.ref q1), (0, Value.ref b)]) dL_law_7 rfl (by decide) rfl ?_
  refine m_bipush (pc := 8) a dL_law_8 (by decide) ?_
  refine m_newI (pc := 10) a (n := 15) rfl (by decide) (hts (Cond.arrayClass .int) (List.mem_cons_of_mem _ (GL_1 _ (by decide +kernel)))) (Nat.le_of_ble_eq_true rfl) (Nat.le_of_ble_eq_true rfl) dL_law_10 (fun q2 => ?_)
  refine m_astore_n (pc := 12) a (ls1 := [(2, Value.ref q2), (1, Value.ref q1), (0, Value.ref b)]) dL_law_12 rfl (by decide) rfl ?_
  refine m_bipush (pc := 13) a dL_law_13 (by decide) ?_
  refine m_newI (pc := 15) a (n := 32) rfl (by decide) (hts (Cond.arrayClass .int) (List.mem_cons_of_mem _ (GL_1 _ (by decide +kernel)))) (Nat.le_of_ble_eq_true rfl) (Nat.le_of_ble_eq_true rfl) dL_law_15 (fun q3 => ?_)
  refine m_astore_n (pc := 17) a (ls1 := [(3, Value.ref q3), (2, Value.ref q2), (1, Value.ref q1), (0, Value.ref b)]) dL_law_17 rfl (by decide) rfl ?_
  refine m_bipush (pc := 18) a dL_law_18 (by decide) ?_
  refine m_newI (pc := 20) a (n := 60) rfl (by decide) (hts (Cond.arrayClass .int) (List.mem_cons_of_mem _ (GL_1 _ (by decide +kernel)))) (Nat.le_of_ble_eq_true rfl) (Nat.le_of_ble_eq_true rfl) dL_law_20 (fun q4 => ?_)
  refine m_astore (pc := 22) a (ls1 := [(4, Value.ref q4), (3, Value.ref q3), (2, Value.ref q2), (1, Value.ref q1), (0, Value.ref b)]) dL_law_22 (by decide) rfl ?_
  refine m_bipush (pc := 24) a dL_law_24 (by decide) ?_
  refine m_newI (pc := 26) a (n := 64) rfl (by decide) (hts (Cond.arrayClass .int) (List.mem_cons_of_mem _ (GL_1 _ (by decide +kernel)))) (Nat.le_of_ble_eq_true rfl) (Nat.le_of_ble_eq_true rfl) dL_law_26 (fun q5 => ?_)
  refine m_astore (pc := 28) a (ls1 := [(5, Value.ref q5), (4, Value.ref q4), (3, Value.ref q3), (2, Value.ref q2), (1, Value.ref q1), (0, Value.ref b)]) dL_law_28 (by decide) rfl ?_
  refine m_eq w0_eq ?_
  refine m_fg (g := fun j => some (ad0 q1 q2 q3 q4 q5 u1 (109 + 13 * j))) (fun j hj => ?_) ?_
  · have : j = 0 ∨ j = 1 ∨ j = 2 ∨ j = 3 := by omega
    rcases this with e | e | e | e <;> subst e <;> rfl
  refine m_eq w1_eq ?_
  intro H locs la hP hDA hS hl
  have hinj : adI (ad0 q1 q2 q3 q4 q5 u1) := ⟨⟨by show 165 ≤ 165; omega, by show 165 ≤ 167; omega⟩, fun i j hi hj e1 => hDA.1 i j _ _ (ws_get hi) (ws_get hj) e1⟩
  have hgb : ∀ k : Nat, k < 165 → s.heap.size ≤ ad0 q1 q2 q3 q4 q5 u1 k := fun k hk => hDA.2 k _ (ws_get hk)
  have hF : StF (AA (ad0 q1 q2 q3 q4 q5 u1) s.heap.size) s s.heap := st_F hts0 hgv (fun x hx z => by
    rcases z with ⟨k, hk, e1⟩ | h9
    · have := hgb k hk; omega
    · omega)
  exact law30 (ad := (ad0 q1 q2 q3 q4 q5 u1)) hinj hl0 rfl ⟨⟨hx, hb, hml, hown, hts⟩, hK, hinj, hF, hlocks, hl0⟩ hr hX (fun i => rfl) hbl hgb hL (by decide) (by decide) hf H locs la hP ⟨hS.1, fun x h1 _ => hS.2.1 x h1 (Nat.not_le.mpr h1), fun x h1 => Or.inr (hS.2.2 x h1)⟩ hl
end START
