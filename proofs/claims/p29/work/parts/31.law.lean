-- ===== end of PART A; then your names; then what follows =====
/-! THE CLAIM OUT OF ONE WALK OF THE LAW'S BODY. Your part is whole_start (and what it stands on); all else here is the same for every law, but numbers. -/
def R_law : String := "SightLegendLaw"
def lw_P (b : Addr) (xs : List Int32) (args : Array Value) (s : State) : Prop := args = #[.ref b] ∧ s.IntsAt b xs ∧ xs.length ≤ 260 ∧ (Jvm.Cond.and given_1 narrow_1).before args s = true
/-- what a walk over the start with the record d0 says of its end, said of the start itself -/
theorem lw_closed {s t : State} {o : Outcome} {d0 : Drawn} {L : List Loc} {k n : Nat} (hd0 : s.drawn.sameBut d0 lw_cs) (hv : ∃ v, o = .returned v) (hW : (s.setDrawn d0).WarmedH t.vm) (hs : (s.setDrawn d0).sameButNew ({ t with vm := s.vm } : State) L k n) : State.butDraws s t lw_cs (fun t1 => Framed s o t1 L k n) := by
  have h2 : t.drawn = d0 := congrArg State.drawn hs.1
  refine ⟨⟨hv, hW, State.sameButNew.setDrawn hs s.drawn⟩, ?_, by decide⟩
  rw [h2]
  exact hd0
def lw_Q (_ : Array Value) (s : State) (o : Outcome) (t : State) : Prop := o = .returned (some (.int 1)) ∧ State.butDraws s t lw_cs (fun t1 => Framed s o t1 [] 600086 7301442)
def lw_Z (below : List Frame) (a : Array Value) (s : State) : State → Prop := fun t => ∃ o, t.status = .running ∧ Ended t below o ∧ lw_Q a s o t
/-- the law's own end, with 1 on the stack, nothing written that was there before, its room as the claim has it; d0: the record of draws at this point (at the entry s.drawn: begin with 'refine W.base ?_' and 'have hd0 := Drawn.sameBut.refl s.drawn lw_cs') -/
theorem lw_ret {p : Program} {l : Launch} {e : Env} {s : State} {m : MethodId} {below : List Frame} {meth : Method} {c : Code} {b : Nat} {d0 : Drawn} (hd0 : s.drawn.sameBut d0 lw_cs) (hx : p.tables.exec = Jvm.exec) (hb : c.code = code) (hr : meth.sig.returnType = ret) (hlocks : meth.locks = false) {pc : Nat} {H : Heap} {ls : Array Slot} (hdg : decode code pc = .ok (.ireturn, 1)) : W p l e room_1 (s.setDrawn d0) m #[Value.ref b] below meth c H [] 600086 7301442 (lw_Z below #[Value.ref b] s) (F0 m pc ls [.int 1]) := by
  intro T hT X
  obtain ⟨fs, hret, hrun, hended, hW, hframe⟩ := X.leave (v := some (.int 1)) (hlocks := hlocks) (fun h => by rw [hr] at h; cases h)
  have hmeth' : T.vm.method? m = some meth := X.method'
  refine ⟨T.setFrames fs, ?_, .returned (some (.int 1)), hrun, hended, rfl, lw_closed hd0 ⟨_, rfl⟩ hW hframe⟩
  jvm_step X.here [X.here.top, hx, hb, hdg, hmeth', hr, ret, narrow_b1]
  (try refine ⟨rfl, ?_⟩); (try refine ⟨rfl, ?_⟩)
  first | (intro acts; rw [hret _ acts rfl rfl rfl]) | rw [hret _ _ rfl rfl rfl]
  exact Steps.refl _
/-- what holds at the law's entry: the machine, the code, the tables' words (any of lw_tbl by 'hts w (by decide +kernel)'), the script of L ints xs at the cell b, what the Statement gives of the start (any of its parts by flat_of_before) -/
def lw_At (p : Program) (s : State) (m : MethodId) (meth : Method) (c : Code) (b L : Nat) (xs : Nat → Int32) : Prop :=
  p.tables.exec = Jvm.exec ∧ c.code = code ∧ meth.sig.returnType = ret ∧ c.maxLocals = 9 ∧ s.vm.findClass R_law = some m.cls ∧ (∀ w ∈ lw_tbl, w.before #[Value.ref b] s = true) ∧ va_X b L xs s s.heap ∧ b < s.heap.size ∧ meth.locks = false ∧ (Jvm.Cond.and given_1 narrow_1).before #[Value.ref b] s = true

section LAW
variable {p : Program} {l : Launch} {e : Env} {R : Room} {s : State} {m : MethodId} {args : Array Value} {below : List Frame} {meth : Method} {c : Code} {cells slots : Nat} {Q : State → Prop} {D : va_G} {X : XI} {ad : Nat → Nat} {nL pc : Nat} {ls : List (Nat × Value)} {st : List Value} {σ : St} {own : String} {Ts : List Cond} {cc : ByteArray}
/-- the law's end -/
theorem e_law {bb : Nat} (a : AM p l e s m #[Value.ref bb] meth c RL (WW (Cond.initialized RX6)) cL_law 9 D X ad) (hgb : ∀ k : Nat, k < 165 → s.heap.size ≤ ad k) (hw : nW ad = 165) (hr : meth.sig.returnType = ret) (hdg : decode cL_law pc = .ok (.ireturn, 1)) {cc9 ss9 : Nat} (hb1 : cc9 ≤ 600086) (hb2 : ss9 ≤ 7301442) : GG p l e room_1 s m #[Value.ref bb] below meth c cc9 ss9 (lw_Z below #[Value.ref bb] s) D X ad 9 pc ls [vI 1] σ := by
  intro H locs la hP hS hl
  refine va_forget (fun q hq => ?_) (W.widen (k := 600086) (n := 7301442) hb1 hb2 (W.base (lw_ret (Drawn.sameBut.refl s.drawn lw_cs) a.1.1 a.1.2.1 hr a.2.2.2.2.1 hdg)))
  rcases hS.2.2 q hq with ⟨k, hk, e1⟩ | h
  · rw [e1]; exact hgb k (hw ▸ hk)
  · exact h
set_option maxRecDepth 100000 in
set_option maxHeartbeats 40000000 in
theorem law30 {bb L : Nat} {xs : Nat → Int32} {xi : Int → Int} (hinj : adI ad) (hl0 : l.stackTraces = false) (hw : nW ad = 165) (a : AM p l e s m #[Value.ref bb] meth c RL (WW (Cond.initialized RX6)) cL_law 9 D X ad) (hr : meth.sig.returnType = ret) (hX : va_X bb L xs s s.heap) (hxi : ∀ i : Int, xi i = (xs i.toNat).toInt) (hbl : bb < s.heap.size) (hgb : ∀ k : Nat, k < 165 → s.heap.size ≤ ad k) (hL2 : L ≤ 260) {cc8 ss8 : Nat} (hb8 : cc8 ≤ 1000) (hb9 : ss8 ≤ 100000) (h : f_L_law L xi σ) : GG p l e room_1 s m #[Value.ref bb] below meth c cc8 ss8 (lw_Z below #[Value.ref bb] s) D X ad 9 30 [(5, Value.ref (ad 164)), (4, Value.ref (ad 163)), (3, Value.ref (ad 162)), (2, Value.ref (ad 161)), (1, Value.ref (ad 0)), (0, Value.ref bb)] [] σ := by
  have hts := a.1.2.2.2.2
  have hbA : ¬ AA ad s.heap.size bb := fun z => by
    rcases z with ⟨k, hk, e1⟩ | h9
    · have := hgb k (hw ▸ hk); omega
    · omega
  have hL : L ≤ 3072 := by omega
  refine a_wid 1000 100000 hb8 hb9 ?_
  unfold f_L_law at h
  have w1 : tyc 164 (0, 64) := ⟨by decide, rfl⟩
  have w2 : tyc 163 (0, 60) := ⟨by decide, rfl⟩
  have w3 : tyc 162 (0, 32) := ⟨by decide, rfl⟩
  have w4 : tyc 161 (0, 15) := ⟨by decide, rfl⟩
  have w5 : tyc 0 (10, 0) := ⟨by decide, rfl⟩
  have w6 := hts (Cond.constant RL 8 (iI 2147483647)) (List.mem_cons_of_mem _ (GL_1 _ (by decide +kernel)))
  refine a_aload_n (pc := 30) a 3 dL_law_30 rfl rfl ?_
  refine a_aload_n (pc := 31) a 2 dL_law_31 rfl rfl ?_
  refine a_csv (pc := 32) a (As := [Value.ref (ad 161), Value.ref (ad 162)]) (rest := []) (fun sz => c_L_begins hinj hl0  h sz) (va_cwS 2 hts (gl_S (GL_4 _ (by decide +kernel)) (GL_4 _ (by decide +kernel)) (GL_4 _ (by decide +kernel)) (GL_5 _ (by decide +kernel))) rfl rfl rfl (by decide +kernel) ⟨Nat.le_of_ble_eq_true rfl, Nat.le_of_ble_eq_true rfl⟩) rfl rfl (Nat.le_of_ble_eq_true rfl) ⟨Nat.le_of_ble_eq_true rfl, Nat.le_of_ble_eq_true rfl⟩ dL_law_32 ?_
  clear h
  intro s1 h
  refine a_aload_n (pc := 35) a 4 dL_law_35 rfl rfl ?_
  refine a_aload_n (pc := 36) a 3 dL_law_36 rfl rfl ?_
  refine a_aload_n (pc := 37) a 2 dL_law_37 rfl rfl ?_
  refine a_aload (pc := 38) a 1 dL_law_38 rfl ?_
  refine a_aload (pc := 40) a 0 dL_law_40 rfl ?_
  refine a_csi (pc := 42) a (As := [Value.ref (ad 0), Value.ref (ad 161), Value.ref (ad 162), Value.ref (ad 163), Value.ref (ad 164)]) (rest := []) (fun sz => c_L_isSo hinj hl0 hw  h sz) (va_cwS 5 hts (gl_S (GL_5 _ (by decide +kernel)) (GL_5 _ (by decide +kernel)) (GL_4 _ (by decide +kernel)) (GL_5 _ (List.mem_of_getElem? (i := 3) rfl))) rfl rfl rfl (by decide +kernel) ⟨Nat.le_of_ble_eq_true rfl, Nat.le_of_ble_eq_true rfl⟩) rfl rfl (Nat.le_of_ble_eq_true rfl) ⟨Nat.le_of_ble_eq_true rfl, Nat.le_of_ble_eq_true rfl⟩ dL_law_42 ?_
  clear h
  intro x2 s3 h
  refine a_istore (pc := 45) a (ls1 := [(6, vI x2), (5, Value.ref (ad 164)), (4, Value.ref (ad 163)), (3, Value.ref (ad 162)), (2, Value.ref (ad 161)), (1, Value.ref (ad 0)), (0, Value.ref bb)]) dL_law_45 (by decide) rfl ?_
  refine a_iconst (pc := 47) a dL_law_47 ?_
  refine a_istore (pc := 48) a (ls1 := [(7, vI 0), (6, vI x2), (5, Value.ref (ad 164)), (4, Value.ref (ad 163)), (3, Value.ref (ad 162)), (2, Value.ref (ad 161)), (1, Value.ref (ad 0)), (0, Value.ref bb)]) dL_law_48 (by decide) rfl ?_
  refine a_sub (ls1 := [(0, Value.ref bb), (1, Value.ref (ad 0)), (2, Value.ref (ad 161)), (3, Value.ref (ad 162)), (4, Value.ref (ad 163)), (5, Value.ref (ad 164)), (6, vI x2), (7, vI 0)]) [7, 6, 5, 4, 3, 2, 1, 0] rfl ?_
  refine a_wid 1882 105620 (by omega) (by omega) ?_
  refine g_wb2s 7 6 36 42 252 (fun x4 x5 => [(0, Value.ref bb), (1, Value.ref (ad 0)), (2, Value.ref (ad 161)), (3, Value.ref (ad 162)), (4, Value.ref (ad 163)), (5, Value.ref (ad 164)), (6, vI x4), (7, vI x5)]) h (by decide) (by decide) ?_
  clear h
  intro x4 x5 s6 ag50 c_k50 s_k50 hc_k50 hs_k50 hag50 h
  refine a_iload (pc := 50) a 7 dL_law_50 rfl ?_
  refine a_bipush (pc := 52) a dL_law_52 (by decide) ?_
  refine g_wj0 100 1924 105872 [(0, Value.ref bb), (1, Value.ref (ad 0)), (2, Value.ref (ad 161)), (3, Value.ref (ad 162)), (4, Value.ref (ad 163)), (5, Value.ref (ad 164)), (6, vI x4)] [] h ?_ ?_
  · clear h
    intro  h
    refine a_iconst (pc := 100) a dL_law_100 ?_
    refine a_aload_n (pc := 101) a 0 dL_law_101 rfl rfl ?_
    refine a_iconst (pc := 102) a dL_law_102 ?_
    refine a_csS (pc := 103) a (As := [Value.ref bb, vI 0]) (rest := [vI 4]) hX hbl hbA (fun sz => c_L_cell hinj hl0 hxi hL  h sz) (va_cwS 2 hts (gl_S (GL_19 _ (by decide +kernel)) (GL_19 _ (by decide +kernel)) (GL_4 _ (by decide +kernel)) (GL_19 _ (by decide +kernel))) rfl rfl rfl (by decide +kernel) ⟨Nat.le_of_ble_eq_true rfl, Nat.le_of_ble_eq_true rfl⟩) rfl rfl (Nat.le_of_ble_eq_true rfl) ⟨Nat.le_of_ble_eq_true rfl, Nat.le_of_ble_eq_true rfl⟩ dL_law_103 ?_
    rintro x11 s9 ⟨hs9, h9⟩
    subst s9
    replace h := h9
    clear h9
    refine a_bipush (pc := 106) a dL_law_106 (by decide) ?_
    refine a_csi (pc := 108) a (As := [vI x11, vI 50]) (rest := [vI 4]) (fun sz => c_L_low hinj hl0  h sz) (va_cwS 2 hts (gl_S (GL_19 _ (by decide +kernel)) (GL_19 _ (by decide +kernel)) (GL_4 _ (by decide +kernel)) (GL_19 _ (by decide +kernel))) rfl rfl rfl (by decide +kernel) ⟨Nat.le_of_ble_eq_true rfl, Nat.le_of_ble_eq_true rfl⟩) rfl rfl (Nat.le_of_ble_eq_true rfl) ⟨Nat.le_of_ble_eq_true rfl, Nat.le_of_ble_eq_true rfl⟩ dL_law_108 ?_
    rintro x12 s9 ⟨hs9, h9⟩
    subst s9
    replace h := h9
    clear h9
    refine a_iadd (pc := 111) a dL_law_111 ?_
    refine a_nm (fun x13 hx => ?_)
    replace h := h x13 hx
    clear hx
    refine a_istore (pc := 112) a (ls1 := [(7, vI x13), (0, Value.ref bb), (1, Value.ref (ad 0)), (2, Value.ref (ad 161)), (3, Value.ref (ad 162)), (4, Value.ref (ad 163)), (5, Value.ref (ad 164)), (6, vI x4)]) dL_law_112 (by decide) rfl ?_
    refine a_iconst (pc := 114) a dL_law_114 ?_
    refine a_istore (pc := 115) a (ls1 := [(8, vI 0), (7, vI x13), (0, Value.ref bb), (1, Value.ref (ad 0)), (2, Value.ref (ad 161)), (3, Value.ref (ad 162)), (4, Value.ref (ad 163)), (5, Value.ref (ad 164)), (6, vI x4)]) dL_law_115 (by decide) rfl ?_
    refine a_sub (ls1 := [(0, Value.ref bb), (1, Value.ref (ad 0)), (2, Value.ref (ad 161)), (3, Value.ref (ad 162)), (4, Value.ref (ad 163)), (5, Value.ref (ad 164)), (6, vI x4), (7, vI x13), (8, vI 0)]) [2, 3, 4, 5, 6, 7, 8, 1, 0] rfl ?_
    refine a_wid 1924 105872 (by omega) (by omega) ?_
    refine g_wb2s 54 888 5656 47952 305424 (fun x14 x15 => [(0, Value.ref bb), (1, Value.ref (ad 0)), (2, Value.ref (ad 161)), (3, Value.ref (ad 162)), (4, Value.ref (ad 163)), (5, Value.ref (ad 164)), (6, vI x14), (7, vI x13), (8, vI x15)]) h (by decide) (by decide) ?_
    clear h
    intro x14 x15 s16 ag117 c_k117 s_k117 hc_k117 hs_k117 hag117 h
    refine a_iload (pc := 117) a 8 dL_law_117 rfl ?_
    refine a_iload (pc := 119) a 7 dL_law_119 rfl ?_
    refine g_wj0 189 49876 411296 [(1, Value.ref (ad 0)), (2, Value.ref (ad 161)), (3, Value.ref (ad 162)), (4, Value.ref (ad 163)), (5, Value.ref (ad 164)), (6, vI x14)] [] h ?_ ?_
    · clear h
      intro  h
      refine a_iload (pc := 189) a 5 dL_law_189 rfl ?_
      refine a_if_eq (pc := 191) a h.1 dL_law_191 (tgt := 211) (by decide) (fun hq => ?_) (fun hq => ?_)
      · replace h := h.2.1 hq
        clear hq
        refine a_iconst (pc := 211) a dL_law_211 ?_
        exact h.elim
      · replace h := h.2.2 hq
        clear hq
        refine a_aload_n (pc := 194) a 0 dL_law_194 rfl rfl ?_
        refine a_aload_n (pc := 195) a 1 dL_law_195 rfl rfl ?_
        refine a_aload_n (pc := 196) a 2 dL_law_196 rfl rfl ?_
        refine a_aload (pc := 197) a 3 dL_law_197 rfl ?_
        refine a_aload (pc := 199) a 4 dL_law_199 rfl ?_
        refine a_csi (pc := 201) a (As := [Value.ref (ad 0), Value.ref (ad 161), Value.ref (ad 162), Value.ref (ad 163), Value.ref (ad 164)]) (rest := []) (fun sz => c_L_isSo hinj hl0 hw  h sz) (va_cwS 5 hts (gl_S (GL_5 _ (by decide +kernel)) (GL_5 _ (by decide +kernel)) (GL_4 _ (by decide +kernel)) (GL_5 _ (List.mem_of_getElem? (i := 3) rfl))) rfl rfl rfl (by decide +kernel) ⟨Nat.le_of_ble_eq_true rfl, Nat.le_of_ble_eq_true rfl⟩) rfl rfl (Nat.le_of_ble_eq_true rfl) ⟨Nat.le_of_ble_eq_true rfl, Nat.le_of_ble_eq_true rfl⟩ dL_law_201 ?_
        clear h
        intro x23 s24 h
        refine a_if_eq (pc := 204) a h.1 dL_law_204 (tgt := 211) (by decide) (fun hq => ?_) (fun hq => ?_)
        · replace h := h.2.1 hq
          clear hq
          refine a_iconst (pc := 211) a dL_law_211 ?_
          exact h.elim
        · replace h := h.2.2 hq
          clear hq
          refine a_iconst (pc := 207) a dL_law_207 ?_
          refine a_goto (pc := 208) a dL_law_208 (tgt := 212) (by decide) ?_
          exact e_law (pc := 212) a hgb hw hr dL_law_212 (by omega) (by omega)
    · clear h
      intro jj189 hjj189 h
      refine a_icmp_ge (pc := 121) a h.1 h.2.1 dL_law_121 (tgt := 189) (by decide) (fun hq => ?_) (fun hq => ?_)
      · replace h := h.2.2.1 hq
        clear hq
        refine a_wid 49876 411296 (by omega) (by omega) ?_
        refine a_sub (ls1 := [(1, Value.ref (ad 0)), (2, Value.ref (ad 161)), (3, Value.ref (ad 162)), (4, Value.ref (ad 163)), (5, Value.ref (ad 164)), (6, vI x14)]) [1, 2, 3, 4, 5, 6] rfl ?_
        exact hjj189  h
      · replace h := h.2.2.2 hq
        clear hq
        refine a_iload (pc := 124) a 6 dL_law_124 rfl ?_
        refine a_if_eq (pc := 126) a h.1 dL_law_126 (tgt := 189) (by decide) (fun hq => ?_) (fun hq => ?_)
        · replace h := h.2.1 hq
          clear hq
          refine a_wid 49876 411296 (by omega) (by omega) ?_
          refine a_sub (ls1 := [(1, Value.ref (ad 0)), (2, Value.ref (ad 161)), (3, Value.ref (ad 162)), (4, Value.ref (ad 163)), (5, Value.ref (ad 164)), (6, vI x14)]) [1, 2, 3, 4, 5, 6] rfl ?_
          exact hjj189  h
        · replace h := h.2.2 hq
          clear hq
          refine a_aload_n (pc := 129) a 1 dL_law_129 rfl rfl ?_
          refine a_aload_n (pc := 130) a 2 dL_law_130 rfl rfl ?_
          refine a_aload_n (pc := 131) a 3 dL_law_131 rfl rfl ?_
          refine a_aload (pc := 132) a 4 dL_law_132 rfl ?_
          refine a_aload_n (pc := 134) a 0 dL_law_134 rfl rfl ?_
          refine a_bipush (pc := 135) a dL_law_135 (by decide) ?_
          refine a_iload (pc := 137) a 8 dL_law_137 rfl ?_
          refine a_iadd (pc := 139) a dL_law_139 ?_
          refine a_csS (pc := 140) a (As := [Value.ref bb, vI (7 + x15)]) (rest := [Value.ref (ad 163), Value.ref (ad 162), Value.ref (ad 161), Value.ref (ad 0)]) hX hbl hbA (fun sz => c_L_cell hinj hl0 hxi hL  h sz) (va_cwS 2 hts (gl_S (GL_19 _ (by decide +kernel)) (GL_19 _ (by decide +kernel)) (GL_4 _ (by decide +kernel)) (GL_19 _ (by decide +kernel))) rfl rfl rfl (by decide +kernel) ⟨Nat.le_of_ble_eq_true rfl, Nat.le_of_ble_eq_true rfl⟩) rfl rfl (Nat.le_of_ble_eq_true rfl) ⟨by show c_k117 + 0 ≤ 600086; omega, by show s_k117 + 0 ≤ 7301442; omega⟩ dL_law_140 ?_
          rintro x18 s9 ⟨hs9, h9⟩
          subst s9
          replace h := h9
          clear h9
          refine a_sipush (pc := 143) a dL_law_143 (by decide) ?_
          refine a_iload (pc := 146) a 8 dL_law_146 rfl ?_
          refine a_imul (pc := 148) a dL_law_148 ?_
          refine a_ixor (pc := 149) a dL_law_149 ?_
          refine a_csi (pc := 150) a (As := [Value.ref (ad 0), Value.ref (ad 161), Value.ref (ad 162), Value.ref (ad 163), vI (bX x18 (7919 * x15))]) (rest := []) (fun sz => c_L_acts hinj hl0  h sz) (va_cwS 5 hts (gl_S (GL_19 _ (by decide +kernel)) (GL_19 _ (by decide +kernel)) (GL_4 _ (by decide +kernel)) (GL_19 _ (List.mem_of_getElem? (i := 10) rfl))) rfl rfl rfl (by decide +kernel) ⟨Nat.le_of_ble_eq_true rfl, Nat.le_of_ble_eq_true rfl⟩) rfl rfl (Nat.le_of_ble_eq_true rfl) ⟨by show c_k117 + 0 + 6 ≤ 600086; omega, by show s_k117 + 0 + 36 ≤ 7301442; omega⟩ dL_law_150 ?_
          clear h
          intro x19 s20 h
          refine a_if_eq (pc := 153) a h.1 dL_law_153 (tgt := 180) (by decide) (fun hq => ?_) (fun hq => ?_)
          · replace h := h.2.1 hq
            clear hq
            refine a_iconst (pc := 180) a dL_law_180 ?_
            refine a_istore (pc := 181) a (ls1 := [(6, vI 0), (0, Value.ref bb), (1, Value.ref (ad 0)), (2, Value.ref (ad 161)), (3, Value.ref (ad 162)), (4, Value.ref (ad 163)), (5, Value.ref (ad 164)), (7, vI x13), (8, vI x15)]) dL_law_181 (by decide) rfl ?_
            refine a_iinc (pc := 183) a (ls1 := [(8, vI (x15 + 1)), (6, vI 0), (0, Value.ref bb), (1, Value.ref (ad 0)), (2, Value.ref (ad 161)), (3, Value.ref (ad 162)), (4, Value.ref (ad 163)), (5, Value.ref (ad 164)), (7, vI x13)]) 8 dL_law_183 rfl (by decide) rfl ?_
            refine a_goto (pc := 186) a dL_law_186 (tgt := 117) (by decide) ?_
            refine a_sub (ls1 := [(0, Value.ref bb), (1, Value.ref (ad 0)), (2, Value.ref (ad 161)), (3, Value.ref (ad 162)), (4, Value.ref (ad 163)), (5, Value.ref (ad 164)), (6, vI 0), (7, vI x13), (8, vI (x15 + 1))]) [2, 3, 4, 5, 6, 7, 1, 8, 0] rfl ?_
            refine a_wid (c_k117 + 888) (s_k117 + 5656) (by omega) (by omega) ?_
            exact hag117 0 (x15 + 1) s20 h
          · replace h := h.2.2 hq
            clear hq
            refine a_iload (pc := 156) a 8 dL_law_156 rfl ?_
            refine a_iconst (pc := 158) a dL_law_158 ?_
            refine a_irem (pc := 159) a dL_law_159 h.1 (by decide) ?_
            replace h := h.2
            refine a_if_gt (pc := 160) a h.1 dL_law_160 (tgt := 176) (by decide) (fun hq => ?_) (fun hq => ?_)
            · replace h := h.2.1 hq
              clear hq
              refine a_iconst (pc := 176) a dL_law_176 ?_
              refine a_goto (pc := 177) a dL_law_177 (tgt := 181) (by decide) ?_
              refine a_istore (pc := 181) a (ls1 := [(6, vI 1), (0, Value.ref bb), (1, Value.ref (ad 0)), (2, Value.ref (ad 161)), (3, Value.ref (ad 162)), (4, Value.ref (ad 163)), (5, Value.ref (ad 164)), (7, vI x13), (8, vI x15)]) dL_law_181 (by decide) rfl ?_
              refine a_iinc (pc := 183) a (ls1 := [(8, vI (x15 + 1)), (6, vI 1), (0, Value.ref bb), (1, Value.ref (ad 0)), (2, Value.ref (ad 161)), (3, Value.ref (ad 162)), (4, Value.ref (ad 163)), (5, Value.ref (ad 164)), (7, vI x13)]) 8 dL_law_183 rfl (by decide) rfl ?_
              refine a_goto (pc := 186) a dL_law_186 (tgt := 117) (by decide) ?_
              refine a_sub (ls1 := [(0, Value.ref bb), (1, Value.ref (ad 0)), (2, Value.ref (ad 161)), (3, Value.ref (ad 162)), (4, Value.ref (ad 163)), (5, Value.ref (ad 164)), (6, vI 1), (7, vI x13), (8, vI (x15 + 1))]) [2, 3, 4, 5, 6, 7, 1, 8, 0] rfl ?_
              refine a_wid (c_k117 + 888) (s_k117 + 5656) (by omega) (by omega) ?_
              exact hag117 1 (x15 + 1) s20 h
            · replace h := h.2.2 hq
              clear hq
              refine a_aload_n (pc := 163) a 1 dL_law_163 rfl rfl ?_
              refine a_aload_n (pc := 164) a 2 dL_law_164 rfl rfl ?_
              refine a_aload_n (pc := 165) a 3 dL_law_165 rfl rfl ?_
              refine a_aload (pc := 166) a 4 dL_law_166 rfl ?_
              refine a_aload (pc := 168) a 5 dL_law_168 rfl ?_
              refine a_csi (pc := 170) a (As := [Value.ref (ad 0), Value.ref (ad 161), Value.ref (ad 162), Value.ref (ad 163), Value.ref (ad 164)]) (rest := []) (fun sz => c_L_isSo hinj hl0 hw  h sz) (va_cwS 5 hts (gl_S (GL_5 _ (by decide +kernel)) (GL_5 _ (by decide +kernel)) (GL_4 _ (by decide +kernel)) (GL_5 _ (List.mem_of_getElem? (i := 3) rfl))) rfl rfl rfl (by decide +kernel) ⟨Nat.le_of_ble_eq_true rfl, Nat.le_of_ble_eq_true rfl⟩) rfl rfl (Nat.le_of_ble_eq_true rfl) ⟨by show c_k117 + 0 + 6 + 882 ≤ 600086; omega, by show s_k117 + 0 + 36 + 5620 ≤ 7301442; omega⟩ dL_law_170 ?_
              clear h
              intro x21 s22 h
              refine a_if_eq (pc := 173) a h.1 dL_law_173 (tgt := 180) (by decide) (fun hq => ?_) (fun hq => ?_)
              · replace h := h.2.1 hq
                clear hq
                refine a_iconst (pc := 180) a dL_law_180 ?_
                refine a_istore (pc := 181) a (ls1 := [(6, vI 0), (0, Value.ref bb), (1, Value.ref (ad 0)), (2, Value.ref (ad 161)), (3, Value.ref (ad 162)), (4, Value.ref (ad 163)), (5, Value.ref (ad 164)), (7, vI x13), (8, vI x15)]) dL_law_181 (by decide) rfl ?_
                refine a_iinc (pc := 183) a (ls1 := [(8, vI (x15 + 1)), (6, vI 0), (0, Value.ref bb), (1, Value.ref (ad 0)), (2, Value.ref (ad 161)), (3, Value.ref (ad 162)), (4, Value.ref (ad 163)), (5, Value.ref (ad 164)), (7, vI x13)]) 8 dL_law_183 rfl (by decide) rfl ?_
                refine a_goto (pc := 186) a dL_law_186 (tgt := 117) (by decide) ?_
                refine a_sub (ls1 := [(0, Value.ref bb), (1, Value.ref (ad 0)), (2, Value.ref (ad 161)), (3, Value.ref (ad 162)), (4, Value.ref (ad 163)), (5, Value.ref (ad 164)), (6, vI 0), (7, vI x13), (8, vI (x15 + 1))]) [2, 3, 4, 5, 6, 7, 1, 8, 0] rfl ?_
                refine a_wid (c_k117 + 888) (s_k117 + 5656) (by omega) (by omega) ?_
                exact hag117 0 (x15 + 1) s22 h
              · replace h := h.2.2 hq
                clear hq
                refine a_iconst (pc := 176) a dL_law_176 ?_
                refine a_goto (pc := 177) a dL_law_177 (tgt := 181) (by decide) ?_
                refine a_istore (pc := 181) a (ls1 := [(6, vI 1), (0, Value.ref bb), (1, Value.ref (ad 0)), (2, Value.ref (ad 161)), (3, Value.ref (ad 162)), (4, Value.ref (ad 163)), (5, Value.ref (ad 164)), (7, vI x13), (8, vI x15)]) dL_law_181 (by decide) rfl ?_
                refine a_iinc (pc := 183) a (ls1 := [(8, vI (x15 + 1)), (6, vI 1), (0, Value.ref bb), (1, Value.ref (ad 0)), (2, Value.ref (ad 161)), (3, Value.ref (ad 162)), (4, Value.ref (ad 163)), (5, Value.ref (ad 164)), (7, vI x13)]) 8 dL_law_183 rfl (by decide) rfl ?_
                refine a_goto (pc := 186) a dL_law_186 (tgt := 117) (by decide) ?_
                refine a_sub (ls1 := [(0, Value.ref bb), (1, Value.ref (ad 0)), (2, Value.ref (ad 161)), (3, Value.ref (ad 162)), (4, Value.ref (ad 163)), (5, Value.ref (ad 164)), (6, vI 1), (7, vI x13), (8, vI (x15 + 1))]) [2, 3, 4, 5, 6, 7, 1, 8, 0] rfl ?_
                refine a_wid (c_k117 + 888) (s_k117 + 5656) (by omega) (by omega) ?_
                exact hag117 1 (x15 + 1) s22 h
  · clear h
    intro jj100 hjj100 h
    refine a_icmp_ge (pc := 54) a h.1 ⟨by decide, by decide⟩ dL_law_54 (tgt := 100) (by decide) (fun hq => ?_) (fun hq => ?_)
    · replace h := h.2.1 hq
      clear hq
      refine a_wid 1924 105872 (by omega) (by omega) ?_
      refine a_sub (ls1 := [(0, Value.ref bb), (1, Value.ref (ad 0)), (2, Value.ref (ad 161)), (3, Value.ref (ad 162)), (4, Value.ref (ad 163)), (5, Value.ref (ad 164)), (6, vI x4)]) [0, 1, 2, 3, 4, 5, 6] rfl ?_
      exact hjj100  h
    · replace h := h.2.2 hq
      clear hq
      refine a_iload (pc := 57) a 6 dL_law_57 rfl ?_
      refine a_if_eq (pc := 59) a h.1 dL_law_59 (tgt := 100) (by decide) (fun hq => ?_) (fun hq => ?_)
      · replace h := h.2.1 hq
        clear hq
        refine a_wid 1924 105872 (by omega) (by omega) ?_
        refine a_sub (ls1 := [(0, Value.ref bb), (1, Value.ref (ad 0)), (2, Value.ref (ad 161)), (3, Value.ref (ad 162)), (4, Value.ref (ad 163)), (5, Value.ref (ad 164)), (6, vI x4)]) [0, 1, 2, 3, 4, 5, 6] rfl ?_
        exact hjj100  h
      · replace h := h.2.2 hq
        clear hq
        refine a_aload_n (pc := 62) a 1 dL_law_62 rfl rfl ?_
        refine a_aload_n (pc := 63) a 2 dL_law_63 rfl rfl ?_
        refine a_aload_n (pc := 64) a 3 dL_law_64 rfl rfl ?_
        refine a_aload (pc := 65) a 4 dL_law_65 rfl ?_
        refine a_aload_n (pc := 67) a 0 dL_law_67 rfl rfl ?_
        refine a_iconst (pc := 68) a dL_law_68 ?_
        refine a_iload (pc := 69) a 7 dL_law_69 rfl ?_
        refine a_iadd (pc := 71) a dL_law_71 ?_
        refine a_csS (pc := 72) a (As := [Value.ref bb, vI (1 + x5)]) (rest := [Value.ref (ad 163), Value.ref (ad 162), Value.ref (ad 161), Value.ref (ad 0)]) hX hbl hbA (fun sz => c_L_cell hinj hl0 hxi hL  h sz) (va_cwS 2 hts (gl_S (GL_19 _ (by decide +kernel)) (GL_19 _ (by decide +kernel)) (GL_4 _ (by decide +kernel)) (GL_19 _ (by decide +kernel))) rfl rfl rfl (by decide +kernel) ⟨Nat.le_of_ble_eq_true rfl, Nat.le_of_ble_eq_true rfl⟩) rfl rfl (Nat.le_of_ble_eq_true rfl) ⟨by show c_k50 + 0 ≤ 600086; omega, by show s_k50 + 0 ≤ 7301442; omega⟩ dL_law_72 ?_
        rintro x8 s9 ⟨hs9, h9⟩
        subst s9
        replace h := h9
        clear h9
        refine a_ldc (pc := 75) a (n := 2147483647) w6 dL_law_75 ?_
        refine a_iand (pc := 77) a dL_law_77 ?_
        refine a_sipush (pc := 78) a dL_law_78 (by decide) ?_
        refine a_idiv (pc := 81) a dL_law_81 h.1 (by decide) ?_
        replace h := h.2
        refine a_sipush (pc := 82) a dL_law_82 (by decide) ?_
        refine a_imul (pc := 85) a dL_law_85 ?_
        refine a_bipush (pc := 86) a dL_law_86 (by decide) ?_
        refine a_iadd (pc := 88) a dL_law_88 ?_
        refine a_csi (pc := 89) a (As := [Value.ref (ad 0), Value.ref (ad 161), Value.ref (ad 162), Value.ref (ad 163), vI ((((bA x8 2147483647) / 640) * 640) + 12)]) (rest := []) (fun sz => c_L_acts hinj hl0  h sz) (va_cwS 5 hts (gl_S (GL_19 _ (by decide +kernel)) (GL_19 _ (by decide +kernel)) (GL_4 _ (by decide +kernel)) (GL_19 _ (List.mem_of_getElem? (i := 10) rfl))) rfl rfl rfl (by decide +kernel) ⟨Nat.le_of_ble_eq_true rfl, Nat.le_of_ble_eq_true rfl⟩) rfl rfl (Nat.le_of_ble_eq_true rfl) ⟨by show c_k50 + 0 + 6 ≤ 600086; omega, by show s_k50 + 0 + 36 ≤ 7301442; omega⟩ dL_law_89 ?_
        clear h
        intro x9 s10 h
        refine a_istore (pc := 92) a (ls1 := [(6, vI x9), (0, Value.ref bb), (1, Value.ref (ad 0)), (2, Value.ref (ad 161)), (3, Value.ref (ad 162)), (4, Value.ref (ad 163)), (5, Value.ref (ad 164)), (7, vI x5)]) dL_law_92 (by decide) rfl ?_
        refine a_iinc (pc := 94) a (ls1 := [(7, vI (x5 + 1)), (6, vI x9), (0, Value.ref bb), (1, Value.ref (ad 0)), (2, Value.ref (ad 161)), (3, Value.ref (ad 162)), (4, Value.ref (ad 163)), (5, Value.ref (ad 164))]) 7 dL_law_94 rfl (by decide) rfl ?_
        refine a_goto (pc := 97) a dL_law_97 (tgt := 50) (by decide) ?_
        refine a_sub (ls1 := [(0, Value.ref bb), (1, Value.ref (ad 0)), (2, Value.ref (ad 161)), (3, Value.ref (ad 162)), (4, Value.ref (ad 163)), (5, Value.ref (ad 164)), (6, vI x9), (7, vI (x5 + 1))]) [2, 3, 4, 5, 6, 7, 1, 0] rfl ?_
        refine a_wid (c_k50 + 6) (s_k50 + 36) (by omega) (by omega) ?_
        exact hag50 x9 (x5 + 1) s10 h
end LAW
