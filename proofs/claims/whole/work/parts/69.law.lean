-- ===== end of PART A; then your names; then what follows =====
/-! THE CLAIM OUT OF ONE WALK OF THE LAW'S BODY. Your part is whole_start (and what it stands on); all else here is the same for every law, but numbers. -/
def R_law : String := "SightLegendLaw"
def lw_P (b : Addr) (xs : List Int32) (args : Array Value) (s : State) : Prop := args = #[.ref b] ∧ s.IntsAt b xs ∧ xs.length ≤ 3072 ∧ (Jvm.Cond.and given_1 narrow_1).before args s = true
/-- what a walk over the start with the record d0 says of its end, said of the start itself -/
theorem lw_closed {s t : State} {o : Outcome} {d0 : Drawn} {L : List Loc} {k n : Nat} (hd0 : s.drawn.sameBut d0 lw_cs) (hv : ∃ v, o = .returned v) (hW : (s.setDrawn d0).WarmedH t.vm) (hs : (s.setDrawn d0).sameButNew ({ t with vm := s.vm } : State) L k n) : State.butDraws s t lw_cs (fun t1 => Framed s o t1 L k n) := by
  have h2 : t.drawn = d0 := congrArg State.drawn hs.1
  refine ⟨⟨hv, hW, State.sameButNew.setDrawn hs s.drawn⟩, ?_, by decide⟩
  rw [h2]
  exact hd0
def lw_Q (_ : Array Value) (s : State) (o : Outcome) (t : State) : Prop := o = .returned (some (.int 1)) ∧ State.butDraws s t lw_cs (fun t1 => Framed s o t1 [] 601024 7293034)
def lw_Z (below : List Frame) (a : Array Value) (s : State) : State → Prop := fun t => ∃ o, t.status = .running ∧ Ended t below o ∧ lw_Q a s o t
/-- the law's own end, with 1 on the stack, nothing written that was there before, its room as the claim has it; d0: the record of draws at this point (at the entry s.drawn: begin with 'refine W.base ?_' and 'have hd0 := Drawn.sameBut.refl s.drawn lw_cs') -/
theorem lw_ret {p : Program} {l : Launch} {e : Env} {s : State} {m : MethodId} {below : List Frame} {meth : Method} {c : Code} {b : Nat} {d0 : Drawn} (hd0 : s.drawn.sameBut d0 lw_cs) (hx : p.tables.exec = Jvm.exec) (hb : c.code = code) (hr : meth.sig.returnType = ret) (hlocks : meth.locks = false) {pc : Nat} {H : Heap} {ls : Array Slot} (hdg : decode code pc = .ok (.ireturn, 1)) : W p l e room_1 (s.setDrawn d0) m #[Value.ref b] below meth c H [] 601024 7293034 (lw_Z below #[Value.ref b] s) (F0 m pc ls [.int 1]) := by
  intro T hT X
  obtain ⟨fs, hret, hrun, hended, hW, hframe⟩ := X.leave (v := some (.int 1)) (hlocks := hlocks) (fun h => by rw [hr] at h; cases h)
  have hmeth' : T.vm.method? m = some meth := X.method'
  refine ⟨T.setFrames fs, ?_, .returned (some (.int 1)), hrun, hended, rfl, lw_closed hd0 ⟨_, rfl⟩ hW hframe⟩
  jvm_step X.here [X.here.top, hx, hb, hdg, hmeth', hr, ret, narrow_b1]
  (try refine ⟨rfl, ?_⟩); (try refine ⟨rfl, ?_⟩)
  first | (intro acts; rw [hret _ acts rfl rfl rfl]) | rw [hret _ _ rfl rfl rfl]
  exact Steps.refl _
/-- what holds at the law's entry: the machine, the code, the tables' words (any of lw_tbl by 'hts w (by decide +kernel)'), the script of L ints xs at the cell b, what the Statement gives of the start (any of its parts by flat_of_before) -/
def lw_At (p : Program) (s : State) (m : MethodId) (meth : Method) (c : Code) (b L : Nat) (xs : Nat → Int32) : Prop :=
  p.tables.exec = Jvm.exec ∧ c.code = code ∧ meth.sig.returnType = ret ∧ c.maxLocals = 9 ∧ s.vm.findClass R_law = some m.cls ∧ (∀ w ∈ lw_tbl, w.before #[Value.ref b] s = true) ∧ va_X b L xs s s.heap ∧ b < s.heap.size ∧ meth.locks = false ∧ (Jvm.Cond.and given_1 narrow_1).before #[Value.ref b] s = true

section LAW
variable {p : Program} {l : Launch} {e : Env} {R : Room} {s : State} {m : MethodId} {args : Array Value} {below : List Frame} {meth : Method} {c : Code} {cells slots : Nat} {Q : State → Prop} {D : va_G} {X : XI} {ad : Nat → Nat} {nL pc : Nat} {ls : List (Nat × Value)} {st : List Value} {σ : St} {own : String} {Ts : List Cond} {cc : ByteArray}
theorem a_sldx (a : AM p l e s m args meth c own Ts cc nL D X ad) {bb L : Nat} {xs : Nat → Int32} {xi : Int → Int} {i : Int} (hX : va_X bb L xs s s.heap) (hxi : ∀ i : Int, xi i = (xs i.toNat).toInt) (hbl : bb < s.heap.size) (hbA : ¬ AA ad s.heap.size bb) (hL : L ≤ 3072) (hi : 0 ≤ i ∧ i < L) (hdg : decode cc pc = .ok (.iaload, 1))
    (k : GG p l e R s m args below meth c cells slots Q D X ad nL (pc + 1) ls (vI (xi i) :: st) σ) : GG p l e R s m args below meth c cells slots Q D X ad nL pc ls (vI i :: Value.ref bb :: st) σ :=
  a_sld a hX hbl hbA hL hi hdg (hxi i ▸ k)
def bud2 (i : Int) (cc9 ss9 : Nat) : Prop := 0 ≤ i ∧ (cc9 : Int) + (3084 - i) ≤ 601024 ∧ ((ss9 : Int) + 6 * (3084 - i) ≤ 7293034 ∧ i ≤ 3078)
theorem g_law2 {f : Int → St → (Int → St → Prop) → Prop} (LL : Int → List (Nat × Value)) {i0 : Int} {τ0 : St} (h : ∃ n, wl1s f n i0 τ0)
    (hs : ∀ (i : Int) (τ : St) (ag : Int → St → Prop), (∀ (i1 : Int) (τ1 : St) (cc9 ss9 : Nat), ag i1 τ1 → bud2 i1 cc9 ss9 → GG p l e R s m args below meth c cc9 ss9 Q D X ad nL pc (LL i1) [] τ1) → f i τ ag → ∀ cc9 ss9 : Nat, bud2 i cc9 ss9 → GG p l e R s m args below meth c cc9 ss9 Q D X ad nL pc (LL i) [] τ) (cc9 ss9 : Nat) (hb : bud2 i0 cc9 ss9) : GG p l e R s m args below meth c cc9 ss9 Q D X ad nL pc (LL i0) [] τ0 :=
  wl1s_run (P := fun i τ => ∀ cc9 ss9 : Nat, bud2 i cc9 ss9 → GG p l e R s m args below meth c cc9 ss9 Q D X ad nL pc (LL i) [] τ) (fun i τ ag hag hf => hs i τ ag (fun i1 τ1 c1 s1 h1 h2 => hag i1 τ1 h1 c1 s1 h2) hf) h cc9 ss9 hb
/-- the law's end -/
theorem e_law {bb : Nat} (a : AM p l e s m #[Value.ref bb] meth c RL (WW (Cond.initialized RX6)) cL_law 9 D X ad) (hgb : ∀ k : Nat, k < 177 → s.heap.size ≤ ad k) (hr : meth.sig.returnType = ret) (hdg : decode cL_law pc = .ok (.ireturn, 1)) {i : Int} {cc9 ss9 : Nat} (hb : bud2 i cc9 ss9) : GG p l e room_1 s m #[Value.ref bb] below meth c cc9 ss9 (lw_Z below #[Value.ref bb] s) D X ad 9 pc ls [vI 1] σ := by
  intro H locs la hP hS hl
  refine va_forget (fun q hq => ?_) (W.widen (k := 601024) (n := 7293034) (by have := hb.2.1; have := hb.2.2; omega) (by have := hb.2.2; omega) (W.base (lw_ret (Drawn.sameBut.refl s.drawn lw_cs) a.1.1 a.1.2.1 hr a.2.2.2.2.1 hdg)))
  rcases hS.2.2 q hq with ⟨k, hk, e1⟩ | h
  · rw [e1]; exact hgb k hk
  · exact h
set_option maxRecDepth 100000 in
set_option maxHeartbeats 40000000 in
theorem law20 {bb L : Nat} {xs : Nat → Int32} {xi : Int → Int} (hinj : adI ad) (hl0 : l.stackTraces = false) (a : AM p l e s m #[Value.ref bb] meth c RL (WW (Cond.initialized RX6)) cL_law 9 D X ad) (hr : meth.sig.returnType = ret) (hX : va_X bb L xs s s.heap) (hxi : ∀ i : Int, xi i = (xs i.toNat).toInt) (hbl : bb < s.heap.size) (hgb : ∀ k : Nat, k < 177 → s.heap.size ≤ ad k) (hL : L ≤ 3072) {cc8 ss8 : Nat} (hb8 : bud2 0 cc8 ss8) (h : f_L_law L xi σ) : GG p l e room_1 s m #[Value.ref bb] below meth c cc8 ss8 (lw_Z below #[Value.ref bb] s) D X ad 9 20 [(3, Value.ref (ad 176)), (2, Value.ref (ad 161)), (1, Value.ref (ad 0)), (0, Value.ref bb)] [] σ := by
  have hts := a.1.2.2.2.2
  have hbA : ¬ AA ad s.heap.size bb := fun z => by
    rcases z with ⟨k, hk, e1⟩ | h9
    · have := hgb k hk; omega
    · omega
  have w1 : tyc 176 (3, 1) := ⟨by decide, rfl⟩
  have w2 : tyc 161 (11, 0) := ⟨by decide, rfl⟩
  have w3 : tyc 0 (10, 0) := ⟨by decide, rfl⟩
  refine a_iconst (pc := 20) a dL_law_20 ?_
  refine a_istore (pc := 21) a (ls1 := [(4, vI 0), (3, Value.ref (ad 176)), (2, Value.ref (ad 161)), (1, Value.ref (ad 0)), (0, Value.ref bb)]) dL_law_21 (by decide) rfl ?_
  refine a_sub (ls1 := [(0, Value.ref bb), (1, Value.ref (ad 0)), (2, Value.ref (ad 161)), (3, Value.ref (ad 176)), (4, vI 0)]) [4, 3, 2, 1, 0] rfl ?_
  refine g_law2 (pc := 23) (fun x1 => [(0, Value.ref bb), (1, Value.ref (ad 0)), (2, Value.ref (ad 161)), (3, Value.ref (ad 176)), (4, vI x1)]) h ?_ cc8 ss8 hb8
  clear h
  intro x1 s2 ag23 hag23 h cc9 ss9 hbud
  refine a_iload (pc := 23) a 4 dL_law_23 rfl ?_
  refine a_aload_n (pc := 25) a 0 dL_law_25 rfl rfl ?_
  refine a_slen (pc := 26) a hX hbl hbA dL_law_26 ?_
  refine a_bipush (pc := 27) a dL_law_27 (by decide) ?_
  refine a_isub (pc := 29) a dL_law_29 ?_
  refine a_icmp_gt (pc := 30) a h.1 h.2.1 dL_law_30 (tgt := 1566) (by decide) (fun hq => ?_) (fun hq => ?_)
  · replace h := h.2.2.1 hq
    clear hq
    refine a_iconst (pc := 1566) a dL_law_1566 ?_
    exact e_law (pc := 1567) a hgb hr dL_law_1567 hbud
  · replace h := h.2.2.2 hq
    have hq6 := hq
    clear hq
    refine a_aload_n (pc := 33) a 0 dL_law_33 rfl rfl ?_
    refine a_iload (pc := 34) a 4 dL_law_34 rfl ?_
    refine a_sldx (pc := 36) a hX hxi hbl hbA hL h.1 dL_law_36 ?_
    replace h := h.2
    refine a_bipush (pc := 37) a dL_law_37 (by decide) ?_
    refine a_and31 (pc := 39) a dL_law_39 ?_
    have hsw : (xi x1) % 32 = 0 ∨ (xi x1) % 32 = 1 ∨ (xi x1) % 32 = 2 ∨ (xi x1) % 32 = 3 ∨ (xi x1) % 32 = 4 ∨ (xi x1) % 32 = 5 ∨ (xi x1) % 32 = 6 ∨ (xi x1) % 32 = 7 ∨ (xi x1) % 32 = 8 ∨ (xi x1) % 32 = 9 ∨ (xi x1) % 32 = 10 ∨ (xi x1) % 32 = 11 ∨ (xi x1) % 32 = 12 ∨ (xi x1) % 32 = 13 ∨ (xi x1) % 32 = 14 ∨ (xi x1) % 32 = 15 ∨ (xi x1) % 32 = 16 ∨ (xi x1) % 32 = 17 ∨ (xi x1) % 32 = 18 ∨ (xi x1) % 32 = 19 ∨ (xi x1) % 32 = 20 ∨ (xi x1) % 32 = 21 ∨ (xi x1) % 32 = 22 ∨ (xi x1) % 32 = 23 ∨ (xi x1) % 32 = 24 ∨ (xi x1) % 32 = 25 ∨ ((xi x1) % 32 < 0 ∨ 25 < (xi x1) % 32) := by omega
    rcases hsw with hq | hq | hq | hq | hq | hq | hq | hq | hq | hq | hq | hq | hq | hq | hq | hq | hq | hq | hq | hq | hq | hq | hq | hq | hq | hq | hq
    · replace h := h.2.1 hq
      refine a_tsIn (pc := 40) a 0 hq ⟨by decide, by decide⟩ dL_law_40 (by decide) (by decide) rfl (tgt := 160) (by decide) ?_
      clear hq
      refine a_aload_n (pc := 160) a 1 dL_law_160 rfl rfl ?_
      refine a_aload_n (pc := 161) a 0 dL_law_161 rfl rfl ?_
      refine a_iload (pc := 162) a 4 dL_law_162 rfl ?_
      refine a_iconst (pc := 164) a dL_law_164 ?_
      refine a_iadd (pc := 165) a dL_law_165 ?_
      refine a_sldx (pc := 166) a hX hxi hbl hbA hL h.1 dL_law_166 ?_
      replace h := h.2
      refine a_aload_n (pc := 167) a 0 dL_law_167 rfl rfl ?_
      refine a_iload (pc := 168) a 4 dL_law_168 rfl ?_
      refine a_iconst (pc := 170) a dL_law_170 ?_
      refine a_iadd (pc := 171) a dL_law_171 ?_
      refine a_sldx (pc := 172) a hX hxi hbl hbA hL h.1 dL_law_172 ?_
      replace h := h.2
      refine a_aload_n (pc := 173) a 0 dL_law_173 rfl rfl ?_
      refine a_iload (pc := 174) a 4 dL_law_174 rfl ?_
      refine a_iconst (pc := 176) a dL_law_176 ?_
      refine a_iadd (pc := 177) a dL_law_177 ?_
      refine a_sldx (pc := 178) a hX hxi hbl hbA hL h.1 dL_law_178 ?_
      replace h := h.2
      refine a_aload_n (pc := 179) a 0 dL_law_179 rfl rfl ?_
      refine a_iload (pc := 180) a 4 dL_law_180 rfl ?_
      refine a_iconst (pc := 182) a dL_law_182 ?_
      refine a_iadd (pc := 183) a dL_law_183 ?_
      refine a_sldx (pc := 184) a hX hxi hbl hbA hL h.1 dL_law_184 ?_
      replace h := h.2
      refine a_aload_n (pc := 185) a 0 dL_law_185 rfl rfl ?_
      refine a_iload (pc := 186) a 4 dL_law_186 rfl ?_
      refine a_iconst (pc := 188) a dL_law_188 ?_
      refine a_iadd (pc := 189) a dL_law_189 ?_
      refine a_sldx (pc := 190) a hX hxi hbl hbA hL h.1 dL_law_190 ?_
      replace h := h.2
      refine a_aload_n (pc := 191) a 3 dL_law_191 rfl rfl ?_
      refine a_cwi (pc := 192) a (As := [Value.ref (ad 0), vI (xi (x1 + 1)), vI (xi (x1 + 2)), vI (xi (x1 + 3)), vI (xi (x1 + 4)), vI (xi (x1 + 5)), Value.ref (ad 176)]) (rest := []) (fun sz => c_L_addSign hinj hl0  h sz) (vx_cwSW 7 hts (gl_S (GL_5 _ (by decide +kernel)) (GL_5 _ (by decide +kernel)) (GL_5 _ (by decide +kernel)) (GL_5 _ (by decide +kernel))) rfl rfl rfl (by decide +kernel) ⟨Nat.le_of_ble_eq_true rfl, Nat.le_of_ble_eq_true rfl⟩) rfl rfl (Nat.le_of_ble_eq_true rfl) ⟨by show cc9 + 6 ≤ 601024; have := hbud.2.1; have := hbud.1; omega, by show ss9 + 36 ≤ 7293034; have := hbud.2.2; have := hbud.1; omega⟩ dL_law_192 ?_
      clear h
      intro x3 s4 h
      refine a_istore (pc := 195) a (ls1 := [(5, vI x3), (0, Value.ref bb), (1, Value.ref (ad 0)), (2, Value.ref (ad 161)), (3, Value.ref (ad 176)), (4, vI x1)]) dL_law_195 (by decide) rfl ?_
      refine a_aload_n (pc := 197) a 3 dL_law_197 rfl rfl ?_
      refine a_aload_n (pc := 198) a 1 dL_law_198 rfl rfl ?_
      refine a_iload (pc := 199) a 5 dL_law_199 rfl ?_
      refine a_iconst (pc := 201) a dL_law_201 ?_
      refine a_iadd (pc := 202) a dL_law_202 ?_
      refine a_sldx (pc := 203) a hX hxi hbl hbA hL h.1 dL_law_203 ?_
      replace h := h.2
      refine a_aload_n (pc := 204) a 1 dL_law_204 rfl rfl ?_
      refine a_iload (pc := 205) a 5 dL_law_205 rfl ?_
      refine a_iconst (pc := 207) a dL_law_207 ?_
      refine a_iadd (pc := 208) a dL_law_208 ?_
      refine a_sldx (pc := 209) a hX hxi hbl hbA hL h.1 dL_law_209 ?_
      replace h := h.2
      refine a_aload_n (pc := 210) a 1 dL_law_210 rfl rfl ?_
      refine a_iload (pc := 211) a 5 dL_law_211 rfl ?_
      refine a_iconst (pc := 213) a dL_law_213 ?_
      refine a_iadd (pc := 214) a dL_law_214 ?_
      refine a_sldx (pc := 215) a hX hxi hbl hbA hL h.1 dL_law_215 ?_
      replace h := h.2
      refine a_aload_n (pc := 216) a 1 dL_law_216 rfl rfl ?_
      refine a_iload (pc := 217) a 5 dL_law_217 rfl ?_
      refine a_iconst (pc := 219) a dL_law_219 ?_
      refine a_iadd (pc := 220) a dL_law_220 ?_
      refine a_sldx (pc := 221) a hX hxi hbl hbA hL h.1 dL_law_221 ?_
      replace h := h.2
      refine a_aload_n (pc := 222) a 1 dL_law_222 rfl rfl ?_
      refine a_iload (pc := 223) a 5 dL_law_223 rfl ?_
      refine a_iconst (pc := 225) a dL_law_225 ?_
      refine a_iadd (pc := 226) a dL_law_226 ?_
      refine a_sldx (pc := 227) a hX hxi hbl hbA hL h.1 dL_law_227 ?_
      replace h := h.2
      refine a_cvi (pc := 228) a (As := [vI (xi (x1 + 1)), vI (xi (x1 + 2)), vI (xi (x1 + 3)), vI (xi (x1 + 4)), vI (xi (x1 + 5))]) (rest := []) w2 vc7 (fun sz => c_X7_addSign hinj hl0  h sz) (cwV 5 hts (gl_V (GL_7 _ (by decide +kernel)) (GL_7 _ (by decide +kernel)) (GL_7 _ (by decide +kernel)) (GL_1 _ (by decide +kernel)) (GL_7 _ (by decide +kernel))) rfl rfl rfl (by decide +kernel) ⟨Nat.le_of_ble_eq_true rfl, Nat.le_of_ble_eq_true rfl⟩) rfl rfl (Nat.le_of_ble_eq_true rfl) ⟨by show cc9 + 6 + 0 ≤ 601024; have := hbud.2.1; have := hbud.1; omega, by show ss9 + 36 + 0 ≤ 7293034; have := hbud.2.2; have := hbud.1; omega⟩ dL_law_228 ?_
      clear h
      intro x5 s6 h
      refine a_istore (pc := 231) a (ls1 := [(6, vI x5), (5, vI x3), (0, Value.ref bb), (1, Value.ref (ad 0)), (2, Value.ref (ad 161)), (3, Value.ref (ad 176)), (4, vI x1)]) dL_law_231 (by decide) rfl ?_
      refine a_aload_n (pc := 233) a 4 dL_law_233 rfl rfl ?_
      refine a_cvi (pc := 234) a (As := []) (rest := []) w2 vc7 (fun sz => c_X7_thrown hinj hl0  h sz) (cwV 0 hts (gl_V (GL_9 _ (by decide +kernel)) (GL_9 _ (by decide +kernel)) (GL_9 _ (by decide +kernel)) (GL_1 _ (by decide +kernel)) (GL_9 _ (by decide +kernel))) rfl rfl rfl (by decide +kernel) ⟨Nat.le_of_ble_eq_true rfl, Nat.le_of_ble_eq_true rfl⟩) rfl rfl (Nat.le_of_ble_eq_true rfl) ⟨by show cc9 + 6 + 0 + 0 ≤ 601024; have := hbud.2.1; have := hbud.1; omega, by show ss9 + 36 + 0 + 0 ≤ 7293034; have := hbud.2.2; have := hbud.1; omega⟩ dL_law_234 ?_
      rintro x7 s9 ⟨hs9, h9⟩
      subst s9
      replace h := h9
      clear h9
      refine a_iload (pc := 237) a 1 dL_law_237 rfl ?_
      refine a_icmp_eq (pc := 239) a h.1 h.2.1 dL_law_239 (tgt := 244) (by decide) (fun hq => ?_) (fun hq => ?_)
      · replace h := h.2.2.1 hq
        clear hq
        refine a_iload (pc := 244) a 1 dL_law_244 rfl ?_
        refine a_if_ne (pc := 246) a h.1 dL_law_246 (tgt := 261) (by decide) (fun hq => ?_) (fun hq => ?_)
        · replace h := h.2.1 hq
          clear hq
          refine a_goto (pc := 261) a dL_law_261 (tgt := 1560) (by decide) ?_
          refine a_iinc (pc := 1560) a (ls1 := [(4, vI (x1 + 6)), (6, vI x5), (5, vI x3), (0, Value.ref bb), (1, Value.ref (ad 0)), (2, Value.ref (ad 161)), (3, Value.ref (ad 176))]) 6 dL_law_1560 rfl (by decide) rfl ?_
          refine a_goto (pc := 1563) a dL_law_1563 (tgt := 23) (by decide) ?_
          refine a_sub (ls1 := [(0, Value.ref bb), (1, Value.ref (ad 0)), (2, Value.ref (ad 161)), (3, Value.ref (ad 176)), (4, vI (x1 + 6))]) [3, 4, 5, 6, 0] rfl ?_
          refine a_wid (cc9 + 6) (ss9 + 36) (by omega) (by omega) ?_
          exact hag23 (x1 + 6) s6 _ _ h ⟨by have := hbud.1; omega, by have := hbud.2.1; omega, by have := hbud.2.2; omega⟩
        · replace h := h.2.2 hq
          clear hq
          refine a_aload_n (pc := 249) a 5 dL_law_249 rfl rfl ?_
          refine a_iconst (pc := 250) a dL_law_250 ?_
          refine a_lald (pc := 251) a w1 (by decide) (by decide) dL_law_251 ?_
          refine a_iload (pc := 252) a 0 dL_law_252 rfl ?_
          refine a_i2l (pc := 254) a h.1 dL_law_254 ?_
          replace h := h.2
          refine a_lcmp0 (pc := 255) a h.1 dL_law_255 ?_
          replace h := h.2
          refine a_if_eq (pc := 256) a ⟨by decide, by decide⟩ dL_law_256 (tgt := 261) (by decide) (fun _ => ?_) (fun hq => absurd (by decide) hq)
          refine a_goto (pc := 261) a dL_law_261 (tgt := 1560) (by decide) ?_
          refine a_iinc (pc := 1560) a (ls1 := [(4, vI (x1 + 6)), (6, vI x5), (5, vI x3), (0, Value.ref bb), (1, Value.ref (ad 0)), (2, Value.ref (ad 161)), (3, Value.ref (ad 176))]) 6 dL_law_1560 rfl (by decide) rfl ?_
          refine a_goto (pc := 1563) a dL_law_1563 (tgt := 23) (by decide) ?_
          refine a_sub (ls1 := [(0, Value.ref bb), (1, Value.ref (ad 0)), (2, Value.ref (ad 161)), (3, Value.ref (ad 176)), (4, vI (x1 + 6))]) [3, 4, 5, 6, 0] rfl ?_
          refine a_wid (cc9 + 6) (ss9 + 36) (by omega) (by omega) ?_
          exact hag23 (x1 + 6) s6 _ _ h ⟨by have := hbud.1; omega, by have := hbud.2.1; omega, by have := hbud.2.2; omega⟩
      · replace h := h.2.2.2 hq
        clear hq
        refine a_iconst (pc := 242) a dL_law_242 ?_
        exact h.elim
    · replace h := h.2.2.1 hq
      refine a_tsIn (pc := 40) a 1 hq ⟨by decide, by decide⟩ dL_law_40 (by decide) (by decide) rfl (tgt := 264) (by decide) ?_
      clear hq
      refine a_aload_n (pc := 264) a 1 dL_law_264 rfl rfl ?_
      refine a_aload_n (pc := 265) a 0 dL_law_265 rfl rfl ?_
      refine a_iload (pc := 266) a 4 dL_law_266 rfl ?_
      refine a_iconst (pc := 268) a dL_law_268 ?_
      refine a_iadd (pc := 269) a dL_law_269 ?_
      refine a_sldx (pc := 270) a hX hxi hbl hbA hL h.1 dL_law_270 ?_
      replace h := h.2
      refine a_aload_n (pc := 271) a 3 dL_law_271 rfl rfl ?_
      refine a_cwi (pc := 272) a (As := [Value.ref (ad 0), vI (xi (x1 + 1)), Value.ref (ad 176)]) (rest := []) (fun sz => c_L_removeSign hinj hl0  h sz) (vx_cwSW 3 hts (gl_S (GL_9 _ (by decide +kernel)) (GL_9 _ (by decide +kernel)) (GL_5 _ (by decide +kernel)) (GL_9 _ (by decide +kernel))) rfl rfl rfl (by decide +kernel) ⟨Nat.le_of_ble_eq_true rfl, Nat.le_of_ble_eq_true rfl⟩) rfl rfl (Nat.le_of_ble_eq_true rfl) ⟨by show cc9 + 1 ≤ 601024; have := hbud.2.1; have := hbud.1; omega, by show ss9 + 6 ≤ 7293034; have := hbud.2.2; have := hbud.1; omega⟩ dL_law_272 ?_
      clear h
      intro x8 s9 h
      refine a_istore (pc := 275) a (ls1 := [(5, vI x8), (0, Value.ref bb), (1, Value.ref (ad 0)), (2, Value.ref (ad 161)), (3, Value.ref (ad 176)), (4, vI x1)]) dL_law_275 (by decide) rfl ?_
      refine a_aload_n (pc := 277) a 3 dL_law_277 rfl rfl ?_
      refine a_aload_n (pc := 278) a 1 dL_law_278 rfl rfl ?_
      refine a_iload (pc := 279) a 5 dL_law_279 rfl ?_
      refine a_iconst (pc := 281) a dL_law_281 ?_
      refine a_iadd (pc := 282) a dL_law_282 ?_
      refine a_sldx (pc := 283) a hX hxi hbl hbA hL h.1 dL_law_283 ?_
      replace h := h.2
      refine a_cvi (pc := 284) a (As := [vI (xi (x1 + 1))]) (rest := []) w2 vc7 (fun sz => c_X7_removeSign hinj hl0  h sz) (cwV 1 hts (gl_V (GL_9 _ (by decide +kernel)) (GL_9 _ (by decide +kernel)) (GL_9 _ (by decide +kernel)) (GL_1 _ (by decide +kernel)) (GL_9 _ (by decide +kernel))) rfl rfl rfl (by decide +kernel) ⟨Nat.le_of_ble_eq_true rfl, Nat.le_of_ble_eq_true rfl⟩) rfl rfl (Nat.le_of_ble_eq_true rfl) ⟨by show cc9 + 1 + 0 ≤ 601024; have := hbud.2.1; have := hbud.1; omega, by show ss9 + 6 + 0 ≤ 7293034; have := hbud.2.2; have := hbud.1; omega⟩ dL_law_284 ?_
      clear h
      intro x10 s11 h
      refine a_istore (pc := 287) a (ls1 := [(6, vI x10), (5, vI x8), (0, Value.ref bb), (1, Value.ref (ad 0)), (2, Value.ref (ad 161)), (3, Value.ref (ad 176)), (4, vI x1)]) dL_law_287 (by decide) rfl ?_
      refine a_aload_n (pc := 289) a 4 dL_law_289 rfl rfl ?_
      refine a_cvi (pc := 290) a (As := []) (rest := []) w2 vc7 (fun sz => c_X7_thrown hinj hl0  h sz) (cwV 0 hts (gl_V (GL_9 _ (by decide +kernel)) (GL_9 _ (by decide +kernel)) (GL_9 _ (by decide +kernel)) (GL_1 _ (by decide +kernel)) (GL_9 _ (by decide +kernel))) rfl rfl rfl (by decide +kernel) ⟨Nat.le_of_ble_eq_true rfl, Nat.le_of_ble_eq_true rfl⟩) rfl rfl (Nat.le_of_ble_eq_true rfl) ⟨by show cc9 + 1 + 0 + 0 ≤ 601024; have := hbud.2.1; have := hbud.1; omega, by show ss9 + 6 + 0 + 0 ≤ 7293034; have := hbud.2.2; have := hbud.1; omega⟩ dL_law_290 ?_
      rintro x12 s9 ⟨hs9, h9⟩
      subst s9
      replace h := h9
      clear h9
      refine a_iload (pc := 293) a 1 dL_law_293 rfl ?_
      refine a_icmp_eq (pc := 295) a h.1 h.2.1 dL_law_295 (tgt := 300) (by decide) (fun hq => ?_) (fun hq => ?_)
      · replace h := h.2.2.1 hq
        clear hq
        refine a_iload (pc := 300) a 1 dL_law_300 rfl ?_
        refine a_if_ne (pc := 302) a h.1 dL_law_302 (tgt := 317) (by decide) (fun hq => ?_) (fun hq => ?_)
        · replace h := h.2.1 hq
          clear hq
          refine a_goto (pc := 317) a dL_law_317 (tgt := 1560) (by decide) ?_
          refine a_iinc (pc := 1560) a (ls1 := [(4, vI (x1 + 6)), (6, vI x10), (5, vI x8), (0, Value.ref bb), (1, Value.ref (ad 0)), (2, Value.ref (ad 161)), (3, Value.ref (ad 176))]) 6 dL_law_1560 rfl (by decide) rfl ?_
          refine a_goto (pc := 1563) a dL_law_1563 (tgt := 23) (by decide) ?_
          refine a_sub (ls1 := [(0, Value.ref bb), (1, Value.ref (ad 0)), (2, Value.ref (ad 161)), (3, Value.ref (ad 176)), (4, vI (x1 + 6))]) [3, 4, 5, 6, 0] rfl ?_
          refine a_wid (cc9 + 6) (ss9 + 36) (by omega) (by omega) ?_
          exact hag23 (x1 + 6) s11 _ _ h ⟨by have := hbud.1; omega, by have := hbud.2.1; omega, by have := hbud.2.2; omega⟩
        · replace h := h.2.2 hq
          clear hq
          refine a_aload_n (pc := 305) a 5 dL_law_305 rfl rfl ?_
          refine a_iconst (pc := 306) a dL_law_306 ?_
          refine a_lald (pc := 307) a w1 (by decide) (by decide) dL_law_307 ?_
          refine a_iload (pc := 308) a 0 dL_law_308 rfl ?_
          refine a_i2l (pc := 310) a h.1 dL_law_310 ?_
          replace h := h.2
          refine a_lcmp0 (pc := 311) a h.1 dL_law_311 ?_
          replace h := h.2
          refine a_if_eq (pc := 312) a ⟨by decide, by decide⟩ dL_law_312 (tgt := 317) (by decide) (fun _ => ?_) (fun hq => absurd (by decide) hq)
          refine a_goto (pc := 317) a dL_law_317 (tgt := 1560) (by decide) ?_
          refine a_iinc (pc := 1560) a (ls1 := [(4, vI (x1 + 6)), (6, vI x10), (5, vI x8), (0, Value.ref bb), (1, Value.ref (ad 0)), (2, Value.ref (ad 161)), (3, Value.ref (ad 176))]) 6 dL_law_1560 rfl (by decide) rfl ?_
          refine a_goto (pc := 1563) a dL_law_1563 (tgt := 23) (by decide) ?_
          refine a_sub (ls1 := [(0, Value.ref bb), (1, Value.ref (ad 0)), (2, Value.ref (ad 161)), (3, Value.ref (ad 176)), (4, vI (x1 + 6))]) [3, 4, 5, 6, 0] rfl ?_
          refine a_wid (cc9 + 6) (ss9 + 36) (by omega) (by omega) ?_
          exact hag23 (x1 + 6) s11 _ _ h ⟨by have := hbud.1; omega, by have := hbud.2.1; omega, by have := hbud.2.2; omega⟩
      · replace h := h.2.2.2 hq
        clear hq
        refine a_iconst (pc := 298) a dL_law_298 ?_
        exact h.elim
    · replace h := h.2.2.2.1 hq
      refine a_tsIn (pc := 40) a 2 hq ⟨by decide, by decide⟩ dL_law_40 (by decide) (by decide) rfl (tgt := 320) (by decide) ?_
      clear hq
      refine a_aload_n (pc := 320) a 1 dL_law_320 rfl rfl ?_
      refine a_aload_n (pc := 321) a 0 dL_law_321 rfl rfl ?_
      refine a_iload (pc := 322) a 4 dL_law_322 rfl ?_
      refine a_iconst (pc := 324) a dL_law_324 ?_
      refine a_iadd (pc := 325) a dL_law_325 ?_
      refine a_sldx (pc := 326) a hX hxi hbl hbA hL h.1 dL_law_326 ?_
      replace h := h.2
      refine a_aload_n (pc := 327) a 0 dL_law_327 rfl rfl ?_
      refine a_iload (pc := 328) a 4 dL_law_328 rfl ?_
      refine a_iconst (pc := 330) a dL_law_330 ?_
      refine a_iadd (pc := 331) a dL_law_331 ?_
      refine a_sldx (pc := 332) a hX hxi hbl hbA hL h.1 dL_law_332 ?_
      replace h := h.2
      refine a_aload_n (pc := 333) a 0 dL_law_333 rfl rfl ?_
      refine a_iload (pc := 334) a 4 dL_law_334 rfl ?_
      refine a_iconst (pc := 336) a dL_law_336 ?_
      refine a_iadd (pc := 337) a dL_law_337 ?_
      refine a_sldx (pc := 338) a hX hxi hbl hbA hL h.1 dL_law_338 ?_
      replace h := h.2
      refine a_aload_n (pc := 339) a 3 dL_law_339 rfl rfl ?_
      refine a_cwi (pc := 340) a (As := [Value.ref (ad 0), vI (xi (x1 + 1)), vI (xi (x1 + 2)), vI (xi (x1 + 3)), Value.ref (ad 176)]) (rest := []) (fun sz => c_L_moveSign hinj hl0  h sz) (vx_cwSW 5 hts (gl_S (GL_10 _ (by decide +kernel)) (GL_10 _ (by decide +kernel)) (GL_5 _ (by decide +kernel)) (GL_10 _ (by decide +kernel))) rfl rfl rfl (by decide +kernel) ⟨Nat.le_of_ble_eq_true rfl, Nat.le_of_ble_eq_true rfl⟩) rfl rfl (Nat.le_of_ble_eq_true rfl) ⟨by show cc9 + 3 ≤ 601024; have := hbud.2.1; have := hbud.1; omega, by show ss9 + 18 ≤ 7293034; have := hbud.2.2; have := hbud.1; omega⟩ dL_law_340 ?_
      clear h
      intro x13 s14 h
      refine a_istore (pc := 343) a (ls1 := [(5, vI x13), (0, Value.ref bb), (1, Value.ref (ad 0)), (2, Value.ref (ad 161)), (3, Value.ref (ad 176)), (4, vI x1)]) dL_law_343 (by decide) rfl ?_
      refine a_aload_n (pc := 345) a 3 dL_law_345 rfl rfl ?_
      refine a_aload_n (pc := 346) a 1 dL_law_346 rfl rfl ?_
      refine a_iload (pc := 347) a 5 dL_law_347 rfl ?_
      refine a_iconst (pc := 349) a dL_law_349 ?_
      refine a_iadd (pc := 350) a dL_law_350 ?_
      refine a_sldx (pc := 351) a hX hxi hbl hbA hL h.1 dL_law_351 ?_
      replace h := h.2
      refine a_aload_n (pc := 352) a 1 dL_law_352 rfl rfl ?_
      refine a_iload (pc := 353) a 5 dL_law_353 rfl ?_
      refine a_iconst (pc := 355) a dL_law_355 ?_
      refine a_iadd (pc := 356) a dL_law_356 ?_
      refine a_sldx (pc := 357) a hX hxi hbl hbA hL h.1 dL_law_357 ?_
      replace h := h.2
      refine a_aload_n (pc := 358) a 1 dL_law_358 rfl rfl ?_
      refine a_iload (pc := 359) a 5 dL_law_359 rfl ?_
      refine a_iconst (pc := 361) a dL_law_361 ?_
      refine a_iadd (pc := 362) a dL_law_362 ?_
      refine a_sldx (pc := 363) a hX hxi hbl hbA hL h.1 dL_law_363 ?_
      replace h := h.2
      refine a_cvi (pc := 364) a (As := [vI (xi (x1 + 1)), vI (xi (x1 + 2)), vI (xi (x1 + 3))]) (rest := []) w2 vc7 (fun sz => c_X7_moveSign hinj hl0  h sz) (cwV 3 hts (gl_V (GL_10 _ (by decide +kernel)) (GL_10 _ (by decide +kernel)) (GL_10 _ (by decide +kernel)) (GL_1 _ (by decide +kernel)) (GL_10 _ (by decide +kernel))) rfl rfl rfl (by decide +kernel) ⟨Nat.le_of_ble_eq_true rfl, Nat.le_of_ble_eq_true rfl⟩) rfl rfl (Nat.le_of_ble_eq_true rfl) ⟨by show cc9 + 3 + 0 ≤ 601024; have := hbud.2.1; have := hbud.1; omega, by show ss9 + 18 + 0 ≤ 7293034; have := hbud.2.2; have := hbud.1; omega⟩ dL_law_364 ?_
      clear h
      intro x15 s16 h
      refine a_istore (pc := 367) a (ls1 := [(6, vI x15), (5, vI x13), (0, Value.ref bb), (1, Value.ref (ad 0)), (2, Value.ref (ad 161)), (3, Value.ref (ad 176)), (4, vI x1)]) dL_law_367 (by decide) rfl ?_
      refine a_aload_n (pc := 369) a 4 dL_law_369 rfl rfl ?_
      refine a_cvi (pc := 370) a (As := []) (rest := []) w2 vc7 (fun sz => c_X7_thrown hinj hl0  h sz) (cwV 0 hts (gl_V (GL_9 _ (by decide +kernel)) (GL_9 _ (by decide +kernel)) (GL_9 _ (by decide +kernel)) (GL_1 _ (by decide +kernel)) (GL_9 _ (by decide +kernel))) rfl rfl rfl (by decide +kernel) ⟨Nat.le_of_ble_eq_true rfl, Nat.le_of_ble_eq_true rfl⟩) rfl rfl (Nat.le_of_ble_eq_true rfl) ⟨by show cc9 + 3 + 0 + 0 ≤ 601024; have := hbud.2.1; have := hbud.1; omega, by show ss9 + 18 + 0 + 0 ≤ 7293034; have := hbud.2.2; have := hbud.1; omega⟩ dL_law_370 ?_
      rintro x17 s9 ⟨hs9, h9⟩
      subst s9
      replace h := h9
      clear h9
      refine a_iload (pc := 373) a 1 dL_law_373 rfl ?_
      refine a_icmp_eq (pc := 375) a h.1 h.2.1 dL_law_375 (tgt := 380) (by decide) (fun hq => ?_) (fun hq => ?_)
      · replace h := h.2.2.1 hq
        clear hq
        refine a_iload (pc := 380) a 1 dL_law_380 rfl ?_
        refine a_if_ne (pc := 382) a h.1 dL_law_382 (tgt := 397) (by decide) (fun hq => ?_) (fun hq => ?_)
        · replace h := h.2.1 hq
          clear hq
          refine a_goto (pc := 397) a dL_law_397 (tgt := 1560) (by decide) ?_
          refine a_iinc (pc := 1560) a (ls1 := [(4, vI (x1 + 6)), (6, vI x15), (5, vI x13), (0, Value.ref bb), (1, Value.ref (ad 0)), (2, Value.ref (ad 161)), (3, Value.ref (ad 176))]) 6 dL_law_1560 rfl (by decide) rfl ?_
          refine a_goto (pc := 1563) a dL_law_1563 (tgt := 23) (by decide) ?_
          refine a_sub (ls1 := [(0, Value.ref bb), (1, Value.ref (ad 0)), (2, Value.ref (ad 161)), (3, Value.ref (ad 176)), (4, vI (x1 + 6))]) [3, 4, 5, 6, 0] rfl ?_
          refine a_wid (cc9 + 6) (ss9 + 36) (by omega) (by omega) ?_
          exact hag23 (x1 + 6) s16 _ _ h ⟨by have := hbud.1; omega, by have := hbud.2.1; omega, by have := hbud.2.2; omega⟩
        · replace h := h.2.2 hq
          clear hq
          refine a_aload_n (pc := 385) a 5 dL_law_385 rfl rfl ?_
          refine a_iconst (pc := 386) a dL_law_386 ?_
          refine a_lald (pc := 387) a w1 (by decide) (by decide) dL_law_387 ?_
          refine a_iload (pc := 388) a 0 dL_law_388 rfl ?_
          refine a_i2l (pc := 390) a h.1 dL_law_390 ?_
          replace h := h.2
          refine a_lcmp0 (pc := 391) a h.1 dL_law_391 ?_
          replace h := h.2
          refine a_if_eq (pc := 392) a ⟨by decide, by decide⟩ dL_law_392 (tgt := 397) (by decide) (fun _ => ?_) (fun hq => absurd (by decide) hq)
          refine a_goto (pc := 397) a dL_law_397 (tgt := 1560) (by decide) ?_
          refine a_iinc (pc := 1560) a (ls1 := [(4, vI (x1 + 6)), (6, vI x15), (5, vI x13), (0, Value.ref bb), (1, Value.ref (ad 0)), (2, Value.ref (ad 161)), (3, Value.ref (ad 176))]) 6 dL_law_1560 rfl (by decide) rfl ?_
          refine a_goto (pc := 1563) a dL_law_1563 (tgt := 23) (by decide) ?_
          refine a_sub (ls1 := [(0, Value.ref bb), (1, Value.ref (ad 0)), (2, Value.ref (ad 161)), (3, Value.ref (ad 176)), (4, vI (x1 + 6))]) [3, 4, 5, 6, 0] rfl ?_
          refine a_wid (cc9 + 6) (ss9 + 36) (by omega) (by omega) ?_
          exact hag23 (x1 + 6) s16 _ _ h ⟨by have := hbud.1; omega, by have := hbud.2.1; omega, by have := hbud.2.2; omega⟩
      · replace h := h.2.2.2 hq
        clear hq
        refine a_iconst (pc := 378) a dL_law_378 ?_
        exact h.elim
    · replace h := h.2.2.2.2.1 hq
      refine a_tsIn (pc := 40) a 3 hq ⟨by decide, by decide⟩ dL_law_40 (by decide) (by decide) rfl (tgt := 400) (by decide) ?_
      clear hq
      refine a_aload_n (pc := 400) a 1 dL_law_400 rfl rfl ?_
      refine a_aload_n (pc := 401) a 0 dL_law_401 rfl rfl ?_
      refine a_iload (pc := 402) a 4 dL_law_402 rfl ?_
      refine a_iconst (pc := 404) a dL_law_404 ?_
      refine a_iadd (pc := 405) a dL_law_405 ?_
      refine a_sldx (pc := 406) a hX hxi hbl hbA hL h.1 dL_law_406 ?_
      replace h := h.2
      refine a_aload_n (pc := 407) a 0 dL_law_407 rfl rfl ?_
      refine a_iload (pc := 408) a 4 dL_law_408 rfl ?_
      refine a_iconst (pc := 410) a dL_law_410 ?_
      refine a_iadd (pc := 411) a dL_law_411 ?_
      refine a_sldx (pc := 412) a hX hxi hbl hbA hL h.1 dL_law_412 ?_
      replace h := h.2
      refine a_aload_n (pc := 413) a 0 dL_law_413 rfl rfl ?_
      refine a_iload (pc := 414) a 4 dL_law_414 rfl ?_
      refine a_iconst (pc := 416) a dL_law_416 ?_
      refine a_iadd (pc := 417) a dL_law_417 ?_
      refine a_sldx (pc := 418) a hX hxi hbl hbA hL h.1 dL_law_418 ?_
      replace h := h.2
      refine a_aload_n (pc := 419) a 0 dL_law_419 rfl rfl ?_
      refine a_iload (pc := 420) a 4 dL_law_420 rfl ?_
      refine a_iconst (pc := 422) a dL_law_422 ?_
      refine a_iadd (pc := 423) a dL_law_423 ?_
      refine a_sldx (pc := 424) a hX hxi hbl hbA hL h.1 dL_law_424 ?_
      replace h := h.2
      refine a_aload_n (pc := 425) a 0 dL_law_425 rfl rfl ?_
      refine a_iload (pc := 426) a 4 dL_law_426 rfl ?_
      refine a_iconst (pc := 428) a dL_law_428 ?_
      refine a_iadd (pc := 429) a dL_law_429 ?_
      refine a_sldx (pc := 430) a hX hxi hbl hbA hL h.1 dL_law_430 ?_
      replace h := h.2
      refine a_aload_n (pc := 431) a 3 dL_law_431 rfl rfl ?_
      refine a_cwi (pc := 432) a (As := [Value.ref (ad 0), vI (xi (x1 + 1)), vI (xi (x1 + 2)), vI (xi (x1 + 3)), vI (xi (x1 + 4)), vI (xi (x1 + 5)), Value.ref (ad 176)]) (rest := []) (fun sz => c_L_setWindow hinj hl0  h sz) (vx_cwSW 7 hts (gl_S (GL_11 _ (by decide +kernel)) (GL_11 _ (by decide +kernel)) (GL_5 _ (by decide +kernel)) (GL_11 _ (by decide +kernel))) rfl rfl rfl (by decide +kernel) ⟨Nat.le_of_ble_eq_true rfl, Nat.le_of_ble_eq_true rfl⟩) rfl rfl (Nat.le_of_ble_eq_true rfl) ⟨by show cc9 + 5 ≤ 601024; have := hbud.2.1; have := hbud.1; omega, by show ss9 + 30 ≤ 7293034; have := hbud.2.2; have := hbud.1; omega⟩ dL_law_432 ?_
      clear h
      intro x18 s19 h
      refine a_istore (pc := 435) a (ls1 := [(5, vI x18), (0, Value.ref bb), (1, Value.ref (ad 0)), (2, Value.ref (ad 161)), (3, Value.ref (ad 176)), (4, vI x1)]) dL_law_435 (by decide) rfl ?_
      refine a_aload_n (pc := 437) a 3 dL_law_437 rfl rfl ?_
      refine a_aload_n (pc := 438) a 1 dL_law_438 rfl rfl ?_
      refine a_iload (pc := 439) a 5 dL_law_439 rfl ?_
      refine a_iconst (pc := 441) a dL_law_441 ?_
      refine a_iadd (pc := 442) a dL_law_442 ?_
      refine a_sldx (pc := 443) a hX hxi hbl hbA hL h.1 dL_law_443 ?_
      replace h := h.2
      refine a_aload_n (pc := 444) a 1 dL_law_444 rfl rfl ?_
      refine a_iload (pc := 445) a 5 dL_law_445 rfl ?_
      refine a_iconst (pc := 447) a dL_law_447 ?_
      refine a_iadd (pc := 448) a dL_law_448 ?_
      refine a_sldx (pc := 449) a hX hxi hbl hbA hL h.1 dL_law_449 ?_
      replace h := h.2
      refine a_aload_n (pc := 450) a 1 dL_law_450 rfl rfl ?_
      refine a_iload (pc := 451) a 5 dL_law_451 rfl ?_
      refine a_iconst (pc := 453) a dL_law_453 ?_
      refine a_iadd (pc := 454) a dL_law_454 ?_
      refine a_sldx (pc := 455) a hX hxi hbl hbA hL h.1 dL_law_455 ?_
      replace h := h.2
      refine a_aload_n (pc := 456) a 1 dL_law_456 rfl rfl ?_
      refine a_iload (pc := 457) a 5 dL_law_457 rfl ?_
      refine a_iconst (pc := 459) a dL_law_459 ?_
      refine a_iadd (pc := 460) a dL_law_460 ?_
      refine a_sldx (pc := 461) a hX hxi hbl hbA hL h.1 dL_law_461 ?_
      replace h := h.2
      refine a_aload_n (pc := 462) a 1 dL_law_462 rfl rfl ?_
      refine a_iload (pc := 463) a 5 dL_law_463 rfl ?_
      refine a_iconst (pc := 465) a dL_law_465 ?_
      refine a_iadd (pc := 466) a dL_law_466 ?_
      refine a_sldx (pc := 467) a hX hxi hbl hbA hL h.1 dL_law_467 ?_
      replace h := h.2
      refine a_cvi (pc := 468) a (As := [vI (xi (x1 + 1)), vI (xi (x1 + 2)), vI (xi (x1 + 3)), vI (xi (x1 + 4)), vI (xi (x1 + 5))]) (rest := []) w2 vc7 (fun sz => c_X7_setWindow hinj hl0  h sz) (cwV 5 hts (gl_V (GL_12 _ (by decide +kernel)) (GL_12 _ (by decide +kernel)) (GL_12 _ (by decide +kernel)) (GL_1 _ (by decide +kernel)) (GL_12 _ (by decide +kernel))) rfl rfl rfl (by decide +kernel) ⟨Nat.le_of_ble_eq_true rfl, Nat.le_of_ble_eq_true rfl⟩) rfl rfl (Nat.le_of_ble_eq_true rfl) ⟨by show cc9 + 5 + 0 ≤ 601024; have := hbud.2.1; have := hbud.1; omega, by show ss9 + 30 + 0 ≤ 7293034; have := hbud.2.2; have := hbud.1; omega⟩ dL_law_468 ?_
      clear h
      intro x20 s21 h
      refine a_istore (pc := 471) a (ls1 := [(6, vI x20), (5, vI x18), (0, Value.ref bb), (1, Value.ref (ad 0)), (2, Value.ref (ad 161)), (3, Value.ref (ad 176)), (4, vI x1)]) dL_law_471 (by decide) rfl ?_
      refine a_aload_n (pc := 473) a 4 dL_law_473 rfl rfl ?_
      refine a_cvi (pc := 474) a (As := []) (rest := []) w2 vc7 (fun sz => c_X7_thrown hinj hl0  h sz) (cwV 0 hts (gl_V (GL_9 _ (by decide +kernel)) (GL_9 _ (by decide +kernel)) (GL_9 _ (by decide +kernel)) (GL_1 _ (by decide +kernel)) (GL_9 _ (by decide +kernel))) rfl rfl rfl (by decide +kernel) ⟨Nat.le_of_ble_eq_true rfl, Nat.le_of_ble_eq_true rfl⟩) rfl rfl (Nat.le_of_ble_eq_true rfl) ⟨by show cc9 + 5 + 0 + 0 ≤ 601024; have := hbud.2.1; have := hbud.1; omega, by show ss9 + 30 + 0 + 0 ≤ 7293034; have := hbud.2.2; have := hbud.1; omega⟩ dL_law_474 ?_
      rintro x22 s9 ⟨hs9, h9⟩
      subst s9
      replace h := h9
      clear h9
      refine a_iload (pc := 477) a 1 dL_law_477 rfl ?_
      refine a_icmp_eq (pc := 479) a h.1 h.2.1 dL_law_479 (tgt := 484) (by decide) (fun hq => ?_) (fun hq => ?_)
      · replace h := h.2.2.1 hq
        clear hq
        refine a_iload (pc := 484) a 1 dL_law_484 rfl ?_
        refine a_if_ne (pc := 486) a h.1 dL_law_486 (tgt := 501) (by decide) (fun hq => ?_) (fun hq => ?_)
        · replace h := h.2.1 hq
          clear hq
          refine a_goto (pc := 501) a dL_law_501 (tgt := 1560) (by decide) ?_
          refine a_iinc (pc := 1560) a (ls1 := [(4, vI (x1 + 6)), (6, vI x20), (5, vI x18), (0, Value.ref bb), (1, Value.ref (ad 0)), (2, Value.ref (ad 161)), (3, Value.ref (ad 176))]) 6 dL_law_1560 rfl (by decide) rfl ?_
          refine a_goto (pc := 1563) a dL_law_1563 (tgt := 23) (by decide) ?_
          refine a_sub (ls1 := [(0, Value.ref bb), (1, Value.ref (ad 0)), (2, Value.ref (ad 161)), (3, Value.ref (ad 176)), (4, vI (x1 + 6))]) [3, 4, 5, 6, 0] rfl ?_
          refine a_wid (cc9 + 6) (ss9 + 36) (by omega) (by omega) ?_
          exact hag23 (x1 + 6) s21 _ _ h ⟨by have := hbud.1; omega, by have := hbud.2.1; omega, by have := hbud.2.2; omega⟩
        · replace h := h.2.2 hq
          clear hq
          refine a_aload_n (pc := 489) a 5 dL_law_489 rfl rfl ?_
          refine a_iconst (pc := 490) a dL_law_490 ?_
          refine a_lald (pc := 491) a w1 (by decide) (by decide) dL_law_491 ?_
          refine a_iload (pc := 492) a 0 dL_law_492 rfl ?_
          refine a_i2l (pc := 494) a h.1 dL_law_494 ?_
          replace h := h.2
          refine a_lcmp0 (pc := 495) a h.1 dL_law_495 ?_
          replace h := h.2
          refine a_if_eq (pc := 496) a ⟨by decide, by decide⟩ dL_law_496 (tgt := 501) (by decide) (fun _ => ?_) (fun hq => absurd (by decide) hq)
          refine a_goto (pc := 501) a dL_law_501 (tgt := 1560) (by decide) ?_
          refine a_iinc (pc := 1560) a (ls1 := [(4, vI (x1 + 6)), (6, vI x20), (5, vI x18), (0, Value.ref bb), (1, Value.ref (ad 0)), (2, Value.ref (ad 161)), (3, Value.ref (ad 176))]) 6 dL_law_1560 rfl (by decide) rfl ?_
          refine a_goto (pc := 1563) a dL_law_1563 (tgt := 23) (by decide) ?_
          refine a_sub (ls1 := [(0, Value.ref bb), (1, Value.ref (ad 0)), (2, Value.ref (ad 161)), (3, Value.ref (ad 176)), (4, vI (x1 + 6))]) [3, 4, 5, 6, 0] rfl ?_
          refine a_wid (cc9 + 6) (ss9 + 36) (by omega) (by omega) ?_
          exact hag23 (x1 + 6) s21 _ _ h ⟨by have := hbud.1; omega, by have := hbud.2.1; omega, by have := hbud.2.2; omega⟩
      · replace h := h.2.2.2 hq
        clear hq
        refine a_iconst (pc := 482) a dL_law_482 ?_
        exact h.elim
    · replace h := h.2.2.2.2.2.1 hq
      refine a_tsIn (pc := 40) a 4 hq ⟨by decide, by decide⟩ dL_law_40 (by decide) (by decide) rfl (tgt := 504) (by decide) ?_
      clear hq
      refine a_aload_n (pc := 504) a 1 dL_law_504 rfl rfl ?_
      refine a_aload_n (pc := 505) a 0 dL_law_505 rfl rfl ?_
      refine a_iload (pc := 506) a 4 dL_law_506 rfl ?_
      refine a_iconst (pc := 508) a dL_law_508 ?_
      refine a_iadd (pc := 509) a dL_law_509 ?_
      refine a_sldx (pc := 510) a hX hxi hbl hbA hL h.1 dL_law_510 ?_
      replace h := h.2
      refine a_aload_n (pc := 511) a 0 dL_law_511 rfl rfl ?_
      refine a_iload (pc := 512) a 4 dL_law_512 rfl ?_
      refine a_iconst (pc := 514) a dL_law_514 ?_
      refine a_iadd (pc := 515) a dL_law_515 ?_
      refine a_sldx (pc := 516) a hX hxi hbl hbA hL h.1 dL_law_516 ?_
      replace h := h.2
      refine a_aload_n (pc := 517) a 3 dL_law_517 rfl rfl ?_
      refine a_cwi (pc := 518) a (As := [Value.ref (ad 0), vI (xi (x1 + 1)), vI (xi (x1 + 2)), Value.ref (ad 176)]) (rest := []) (fun sz => c_L_set hinj hl0  h sz) (vx_cwSW 4 hts (gl_S (GL_12 _ (by decide +kernel)) (GL_12 _ (by decide +kernel)) (GL_5 _ (by decide +kernel)) (GL_12 _ (by decide +kernel))) rfl rfl rfl (by decide +kernel) ⟨Nat.le_of_ble_eq_true rfl, Nat.le_of_ble_eq_true rfl⟩) rfl rfl (Nat.le_of_ble_eq_true rfl) ⟨by show cc9 + 2 ≤ 601024; have := hbud.2.1; have := hbud.1; omega, by show ss9 + 12 ≤ 7293034; have := hbud.2.2; have := hbud.1; omega⟩ dL_law_518 ?_
      clear h
      intro x23 s24 h
      refine a_istore (pc := 521) a (ls1 := [(5, vI x23), (0, Value.ref bb), (1, Value.ref (ad 0)), (2, Value.ref (ad 161)), (3, Value.ref (ad 176)), (4, vI x1)]) dL_law_521 (by decide) rfl ?_
      refine a_aload_n (pc := 523) a 3 dL_law_523 rfl rfl ?_
      refine a_aload_n (pc := 524) a 1 dL_law_524 rfl rfl ?_
      refine a_iload (pc := 525) a 5 dL_law_525 rfl ?_
      refine a_iconst (pc := 527) a dL_law_527 ?_
      refine a_iadd (pc := 528) a dL_law_528 ?_
      refine a_sldx (pc := 529) a hX hxi hbl hbA hL h.1 dL_law_529 ?_
      replace h := h.2
      refine a_aload_n (pc := 530) a 1 dL_law_530 rfl rfl ?_
      refine a_iload (pc := 531) a 5 dL_law_531 rfl ?_
      refine a_iconst (pc := 533) a dL_law_533 ?_
      refine a_iadd (pc := 534) a dL_law_534 ?_
      refine a_sldx (pc := 535) a hX hxi hbl hbA hL h.1 dL_law_535 ?_
      replace h := h.2
      refine a_cvi (pc := 536) a (As := [vI (xi (x1 + 1)), vI (xi (x1 + 2))]) (rest := []) w2 vc7 (fun sz => c_X7_set hinj hl0  h sz) (cwV 2 hts (gl_V (GL_13 _ (by decide +kernel)) (GL_13 _ (by decide +kernel)) (GL_13 _ (by decide +kernel)) (GL_1 _ (by decide +kernel)) (GL_13 _ (by decide +kernel))) rfl rfl rfl (by decide +kernel) ⟨Nat.le_of_ble_eq_true rfl, Nat.le_of_ble_eq_true rfl⟩) rfl rfl (Nat.le_of_ble_eq_true rfl) ⟨by show cc9 + 2 + 0 ≤ 601024; have := hbud.2.1; have := hbud.1; omega, by show ss9 + 12 + 0 ≤ 7293034; have := hbud.2.2; have := hbud.1; omega⟩ dL_law_536 ?_
      clear h
      intro x25 s26 h
      refine a_istore (pc := 539) a (ls1 := [(6, vI x25), (5, vI x23), (0, Value.ref bb), (1, Value.ref (ad 0)), (2, Value.ref (ad 161)), (3, Value.ref (ad 176)), (4, vI x1)]) dL_law_539 (by decide) rfl ?_
      refine a_aload_n (pc := 541) a 4 dL_law_541 rfl rfl ?_
      refine a_cvi (pc := 542) a (As := []) (rest := []) w2 vc7 (fun sz => c_X7_thrown hinj hl0  h sz) (cwV 0 hts (gl_V (GL_9 _ (by decide +kernel)) (GL_9 _ (by decide +kernel)) (GL_9 _ (by decide +kernel)) (GL_1 _ (by decide +kernel)) (GL_9 _ (by decide +kernel))) rfl rfl rfl (by decide +kernel) ⟨Nat.le_of_ble_eq_true rfl, Nat.le_of_ble_eq_true rfl⟩) rfl rfl (Nat.le_of_ble_eq_true rfl) ⟨by show cc9 + 2 + 0 + 0 ≤ 601024; have := hbud.2.1; have := hbud.1; omega, by show ss9 + 12 + 0 + 0 ≤ 7293034; have := hbud.2.2; have := hbud.1; omega⟩ dL_law_542 ?_
      rintro x27 s9 ⟨hs9, h9⟩
      subst s9
      replace h := h9
      clear h9
      refine a_iload (pc := 545) a 1 dL_law_545 rfl ?_
      refine a_icmp_eq (pc := 547) a h.1 h.2.1 dL_law_547 (tgt := 552) (by decide) (fun hq => ?_) (fun hq => ?_)
      · replace h := h.2.2.1 hq
        clear hq
        refine a_iload (pc := 552) a 1 dL_law_552 rfl ?_
        refine a_if_ne (pc := 554) a h.1 dL_law_554 (tgt := 569) (by decide) (fun hq => ?_) (fun hq => ?_)
        · replace h := h.2.1 hq
          clear hq
          refine a_goto (pc := 569) a dL_law_569 (tgt := 1560) (by decide) ?_
          refine a_iinc (pc := 1560) a (ls1 := [(4, vI (x1 + 6)), (6, vI x25), (5, vI x23), (0, Value.ref bb), (1, Value.ref (ad 0)), (2, Value.ref (ad 161)), (3, Value.ref (ad 176))]) 6 dL_law_1560 rfl (by decide) rfl ?_
          refine a_goto (pc := 1563) a dL_law_1563 (tgt := 23) (by decide) ?_
          refine a_sub (ls1 := [(0, Value.ref bb), (1, Value.ref (ad 0)), (2, Value.ref (ad 161)), (3, Value.ref (ad 176)), (4, vI (x1 + 6))]) [3, 4, 5, 6, 0] rfl ?_
          refine a_wid (cc9 + 6) (ss9 + 36) (by omega) (by omega) ?_
          exact hag23 (x1 + 6) s26 _ _ h ⟨by have := hbud.1; omega, by have := hbud.2.1; omega, by have := hbud.2.2; omega⟩
        · replace h := h.2.2 hq
          clear hq
          refine a_aload_n (pc := 557) a 5 dL_law_557 rfl rfl ?_
          refine a_iconst (pc := 558) a dL_law_558 ?_
          refine a_lald (pc := 559) a w1 (by decide) (by decide) dL_law_559 ?_
          refine a_iload (pc := 560) a 0 dL_law_560 rfl ?_
          refine a_i2l (pc := 562) a h.1 dL_law_562 ?_
          replace h := h.2
          refine a_lcmp0 (pc := 563) a h.1 dL_law_563 ?_
          replace h := h.2
          refine a_if_eq (pc := 564) a ⟨by decide, by decide⟩ dL_law_564 (tgt := 569) (by decide) (fun _ => ?_) (fun hq => absurd (by decide) hq)
          refine a_goto (pc := 569) a dL_law_569 (tgt := 1560) (by decide) ?_
          refine a_iinc (pc := 1560) a (ls1 := [(4, vI (x1 + 6)), (6, vI x25), (5, vI x23), (0, Value.ref bb), (1, Value.ref (ad 0)), (2, Value.ref (ad 161)), (3, Value.ref (ad 176))]) 6 dL_law_1560 rfl (by decide) rfl ?_
          refine a_goto (pc := 1563) a dL_law_1563 (tgt := 23) (by decide) ?_
          refine a_sub (ls1 := [(0, Value.ref bb), (1, Value.ref (ad 0)), (2, Value.ref (ad 161)), (3, Value.ref (ad 176)), (4, vI (x1 + 6))]) [3, 4, 5, 6, 0] rfl ?_
          refine a_wid (cc9 + 6) (ss9 + 36) (by omega) (by omega) ?_
          exact hag23 (x1 + 6) s26 _ _ h ⟨by have := hbud.1; omega, by have := hbud.2.1; omega, by have := hbud.2.2; omega⟩
      · replace h := h.2.2.2 hq
        clear hq
        refine a_iconst (pc := 550) a dL_law_550 ?_
        exact h.elim
    · replace h := h.2.2.2.2.2.2.1 hq
      refine a_tsIn (pc := 40) a 5 hq ⟨by decide, by decide⟩ dL_law_40 (by decide) (by decide) rfl (tgt := 572) (by decide) ?_
      clear hq
      refine a_aload_n (pc := 572) a 1 dL_law_572 rfl rfl ?_
      refine a_aload_n (pc := 573) a 0 dL_law_573 rfl rfl ?_
      refine a_iload (pc := 574) a 4 dL_law_574 rfl ?_
      refine a_iconst (pc := 576) a dL_law_576 ?_
      refine a_iadd (pc := 577) a dL_law_577 ?_
      refine a_sldx (pc := 578) a hX hxi hbl hbA hL h.1 dL_law_578 ?_
      replace h := h.2
      refine a_aload_n (pc := 579) a 0 dL_law_579 rfl rfl ?_
      refine a_iload (pc := 580) a 4 dL_law_580 rfl ?_
      refine a_iconst (pc := 582) a dL_law_582 ?_
      refine a_iadd (pc := 583) a dL_law_583 ?_
      refine a_sldx (pc := 584) a hX hxi hbl hbA hL h.1 dL_law_584 ?_
      replace h := h.2
      refine a_aload_n (pc := 585) a 0 dL_law_585 rfl rfl ?_
      refine a_iload (pc := 586) a 4 dL_law_586 rfl ?_
      refine a_iconst (pc := 588) a dL_law_588 ?_
      refine a_iadd (pc := 589) a dL_law_589 ?_
      refine a_sldx (pc := 590) a hX hxi hbl hbA hL h.1 dL_law_590 ?_
      replace h := h.2
      refine a_aload_n (pc := 591) a 3 dL_law_591 rfl rfl ?_
      refine a_cwi (pc := 592) a (As := [Value.ref (ad 0), vI (xi (x1 + 1)), vI (xi (x1 + 2)), vI (xi (x1 + 3)), Value.ref (ad 176)]) (rest := []) (fun sz => c_L_setKind hinj hl0  h sz) (vx_cwSW 5 hts (gl_S (GL_13 _ (by decide +kernel)) (GL_13 _ (by decide +kernel)) (GL_5 _ (by decide +kernel)) (GL_13 _ (by decide +kernel))) rfl rfl rfl (by decide +kernel) ⟨Nat.le_of_ble_eq_true rfl, Nat.le_of_ble_eq_true rfl⟩) rfl rfl (Nat.le_of_ble_eq_true rfl) ⟨by show cc9 + 3 ≤ 601024; have := hbud.2.1; have := hbud.1; omega, by show ss9 + 18 ≤ 7293034; have := hbud.2.2; have := hbud.1; omega⟩ dL_law_592 ?_
      clear h
      intro x28 s29 h
      refine a_istore (pc := 595) a (ls1 := [(5, vI x28), (0, Value.ref bb), (1, Value.ref (ad 0)), (2, Value.ref (ad 161)), (3, Value.ref (ad 176)), (4, vI x1)]) dL_law_595 (by decide) rfl ?_
      refine a_aload_n (pc := 597) a 3 dL_law_597 rfl rfl ?_
      refine a_aload_n (pc := 598) a 1 dL_law_598 rfl rfl ?_
      refine a_iload (pc := 599) a 5 dL_law_599 rfl ?_
      refine a_iconst (pc := 601) a dL_law_601 ?_
      refine a_iadd (pc := 602) a dL_law_602 ?_
      refine a_sldx (pc := 603) a hX hxi hbl hbA hL h.1 dL_law_603 ?_
      replace h := h.2
      refine a_aload_n (pc := 604) a 1 dL_law_604 rfl rfl ?_
      refine a_iload (pc := 605) a 5 dL_law_605 rfl ?_
      refine a_iconst (pc := 607) a dL_law_607 ?_
      refine a_iadd (pc := 608) a dL_law_608 ?_
      refine a_sldx (pc := 609) a hX hxi hbl hbA hL h.1 dL_law_609 ?_
      replace h := h.2
      refine a_aload_n (pc := 610) a 1 dL_law_610 rfl rfl ?_
      refine a_iload (pc := 611) a 5 dL_law_611 rfl ?_
      refine a_iconst (pc := 613) a dL_law_613 ?_
      refine a_iadd (pc := 614) a dL_law_614 ?_
      refine a_sldx (pc := 615) a hX hxi hbl hbA hL h.1 dL_law_615 ?_
      replace h := h.2
      refine a_cvi (pc := 616) a (As := [vI (xi (x1 + 1)), vI (xi (x1 + 2)), vI (xi (x1 + 3))]) (rest := []) w2 vc7 (fun sz => c_X7_setKind hinj hl0  h sz) (cwV 3 hts (gl_V (GL_13 _ (by decide +kernel)) (GL_13 _ (by decide +kernel)) (GL_13 _ (by decide +kernel)) (GL_1 _ (by decide +kernel)) (GL_13 _ (by decide +kernel))) rfl rfl rfl (by decide +kernel) ⟨Nat.le_of_ble_eq_true rfl, Nat.le_of_ble_eq_true rfl⟩) rfl rfl (Nat.le_of_ble_eq_true rfl) ⟨by show cc9 + 3 + 0 ≤ 601024; have := hbud.2.1; have := hbud.1; omega, by show ss9 + 18 + 0 ≤ 7293034; have := hbud.2.2; have := hbud.1; omega⟩ dL_law_616 ?_
      clear h
      intro x30 s31 h
      refine a_istore (pc := 619) a (ls1 := [(6, vI x30), (5, vI x28), (0, Value.ref bb), (1, Value.ref (ad 0)), (2, Value.ref (ad 161)), (3, Value.ref (ad 176)), (4, vI x1)]) dL_law_619 (by decide) rfl ?_
      refine a_aload_n (pc := 621) a 4 dL_law_621 rfl rfl ?_
      refine a_cvi (pc := 622) a (As := []) (rest := []) w2 vc7 (fun sz => c_X7_thrown hinj hl0  h sz) (cwV 0 hts (gl_V (GL_9 _ (by decide +kernel)) (GL_9 _ (by decide +kernel)) (GL_9 _ (by decide +kernel)) (GL_1 _ (by decide +kernel)) (GL_9 _ (by decide +kernel))) rfl rfl rfl (by decide +kernel) ⟨Nat.le_of_ble_eq_true rfl, Nat.le_of_ble_eq_true rfl⟩) rfl rfl (Nat.le_of_ble_eq_true rfl) ⟨by show cc9 + 3 + 0 + 0 ≤ 601024; have := hbud.2.1; have := hbud.1; omega, by show ss9 + 18 + 0 + 0 ≤ 7293034; have := hbud.2.2; have := hbud.1; omega⟩ dL_law_622 ?_
      rintro x32 s9 ⟨hs9, h9⟩
      subst s9
      replace h := h9
      clear h9
      refine a_iload (pc := 625) a 1 dL_law_625 rfl ?_
      refine a_icmp_eq (pc := 627) a h.1 h.2.1 dL_law_627 (tgt := 632) (by decide) (fun hq => ?_) (fun hq => ?_)
      · replace h := h.2.2.1 hq
        clear hq
        refine a_iload (pc := 632) a 1 dL_law_632 rfl ?_
        refine a_if_ne (pc := 634) a h.1 dL_law_634 (tgt := 649) (by decide) (fun hq => ?_) (fun hq => ?_)
        · replace h := h.2.1 hq
          clear hq
          refine a_goto (pc := 649) a dL_law_649 (tgt := 1560) (by decide) ?_
          refine a_iinc (pc := 1560) a (ls1 := [(4, vI (x1 + 6)), (6, vI x30), (5, vI x28), (0, Value.ref bb), (1, Value.ref (ad 0)), (2, Value.ref (ad 161)), (3, Value.ref (ad 176))]) 6 dL_law_1560 rfl (by decide) rfl ?_
          refine a_goto (pc := 1563) a dL_law_1563 (tgt := 23) (by decide) ?_
          refine a_sub (ls1 := [(0, Value.ref bb), (1, Value.ref (ad 0)), (2, Value.ref (ad 161)), (3, Value.ref (ad 176)), (4, vI (x1 + 6))]) [3, 4, 5, 6, 0] rfl ?_
          refine a_wid (cc9 + 6) (ss9 + 36) (by omega) (by omega) ?_
          exact hag23 (x1 + 6) s31 _ _ h ⟨by have := hbud.1; omega, by have := hbud.2.1; omega, by have := hbud.2.2; omega⟩
        · replace h := h.2.2 hq
          clear hq
          refine a_aload_n (pc := 637) a 5 dL_law_637 rfl rfl ?_
          refine a_iconst (pc := 638) a dL_law_638 ?_
          refine a_lald (pc := 639) a w1 (by decide) (by decide) dL_law_639 ?_
          refine a_iload (pc := 640) a 0 dL_law_640 rfl ?_
          refine a_i2l (pc := 642) a h.1 dL_law_642 ?_
          replace h := h.2
          refine a_lcmp0 (pc := 643) a h.1 dL_law_643 ?_
          replace h := h.2
          refine a_if_eq (pc := 644) a ⟨by decide, by decide⟩ dL_law_644 (tgt := 649) (by decide) (fun _ => ?_) (fun hq => absurd (by decide) hq)
          refine a_goto (pc := 649) a dL_law_649 (tgt := 1560) (by decide) ?_
          refine a_iinc (pc := 1560) a (ls1 := [(4, vI (x1 + 6)), (6, vI x30), (5, vI x28), (0, Value.ref bb), (1, Value.ref (ad 0)), (2, Value.ref (ad 161)), (3, Value.ref (ad 176))]) 6 dL_law_1560 rfl (by decide) rfl ?_
          refine a_goto (pc := 1563) a dL_law_1563 (tgt := 23) (by decide) ?_
          refine a_sub (ls1 := [(0, Value.ref bb), (1, Value.ref (ad 0)), (2, Value.ref (ad 161)), (3, Value.ref (ad 176)), (4, vI (x1 + 6))]) [3, 4, 5, 6, 0] rfl ?_
          refine a_wid (cc9 + 6) (ss9 + 36) (by omega) (by omega) ?_
          exact hag23 (x1 + 6) s31 _ _ h ⟨by have := hbud.1; omega, by have := hbud.2.1; omega, by have := hbud.2.2; omega⟩
      · replace h := h.2.2.2 hq
        clear hq
        refine a_iconst (pc := 630) a dL_law_630 ?_
        exact h.elim
    · replace h := h.2.2.2.2.2.2.2.1 hq
      refine a_tsIn (pc := 40) a 6 hq ⟨by decide, by decide⟩ dL_law_40 (by decide) (by decide) rfl (tgt := 652) (by decide) ?_
      clear hq
      refine a_aload_n (pc := 652) a 1 dL_law_652 rfl rfl ?_
      refine a_aload_n (pc := 653) a 0 dL_law_653 rfl rfl ?_
      refine a_iload (pc := 654) a 4 dL_law_654 rfl ?_
      refine a_iconst (pc := 656) a dL_law_656 ?_
      refine a_iadd (pc := 657) a dL_law_657 ?_
      refine a_sldx (pc := 658) a hX hxi hbl hbA hL h.1 dL_law_658 ?_
      replace h := h.2
      refine a_aload_n (pc := 659) a 0 dL_law_659 rfl rfl ?_
      refine a_iload (pc := 660) a 4 dL_law_660 rfl ?_
      refine a_iconst (pc := 662) a dL_law_662 ?_
      refine a_iadd (pc := 663) a dL_law_663 ?_
      refine a_sldx (pc := 664) a hX hxi hbl hbA hL h.1 dL_law_664 ?_
      replace h := h.2
      refine a_aload_n (pc := 665) a 3 dL_law_665 rfl rfl ?_
      refine a_cwi (pc := 666) a (As := [Value.ref (ad 0), vI (xi (x1 + 1)), vI (xi (x1 + 2)), Value.ref (ad 176)]) (rest := []) (fun sz => c_L_setWay hinj hl0  h sz) (vx_cwSW 4 hts (gl_S (GL_14 _ (by decide +kernel)) (GL_14 _ (by decide +kernel)) (GL_5 _ (by decide +kernel)) (GL_14 _ (by decide +kernel))) rfl rfl rfl (by decide +kernel) ⟨Nat.le_of_ble_eq_true rfl, Nat.le_of_ble_eq_true rfl⟩) rfl rfl (Nat.le_of_ble_eq_true rfl) ⟨by show cc9 + 1 ≤ 601024; have := hbud.2.1; have := hbud.1; omega, by show ss9 + 6 ≤ 7293034; have := hbud.2.2; have := hbud.1; omega⟩ dL_law_666 ?_
      clear h
      intro x33 s34 h
      refine a_istore (pc := 669) a (ls1 := [(5, vI x33), (0, Value.ref bb), (1, Value.ref (ad 0)), (2, Value.ref (ad 161)), (3, Value.ref (ad 176)), (4, vI x1)]) dL_law_669 (by decide) rfl ?_
      refine a_aload_n (pc := 671) a 3 dL_law_671 rfl rfl ?_
      refine a_aload_n (pc := 672) a 1 dL_law_672 rfl rfl ?_
      refine a_iload (pc := 673) a 5 dL_law_673 rfl ?_
      refine a_iconst (pc := 675) a dL_law_675 ?_
      refine a_iadd (pc := 676) a dL_law_676 ?_
      refine a_sldx (pc := 677) a hX hxi hbl hbA hL h.1 dL_law_677 ?_
      replace h := h.2
      refine a_aload_n (pc := 678) a 1 dL_law_678 rfl rfl ?_
      refine a_iload (pc := 679) a 5 dL_law_679 rfl ?_
      refine a_iconst (pc := 681) a dL_law_681 ?_
      refine a_iadd (pc := 682) a dL_law_682 ?_
      refine a_sldx (pc := 683) a hX hxi hbl hbA hL h.1 dL_law_683 ?_
      replace h := h.2
      refine a_cvi (pc := 684) a (As := [vI (xi (x1 + 1)), vI (xi (x1 + 2))]) (rest := []) w2 vc7 (fun sz => c_X7_setWay hinj hl0  h sz) (cwV 2 hts (gl_V (GL_14 _ (by decide +kernel)) (GL_14 _ (by decide +kernel)) (GL_14 _ (by decide +kernel)) (GL_1 _ (by decide +kernel)) (GL_14 _ (by decide +kernel))) rfl rfl rfl (by decide +kernel) ⟨Nat.le_of_ble_eq_true rfl, Nat.le_of_ble_eq_true rfl⟩) rfl rfl (Nat.le_of_ble_eq_true rfl) ⟨by show cc9 + 1 + 0 ≤ 601024; have := hbud.2.1; have := hbud.1; omega, by show ss9 + 6 + 0 ≤ 7293034; have := hbud.2.2; have := hbud.1; omega⟩ dL_law_684 ?_
      clear h
      intro x35 s36 h
      refine a_istore (pc := 687) a (ls1 := [(6, vI x35), (5, vI x33), (0, Value.ref bb), (1, Value.ref (ad 0)), (2, Value.ref (ad 161)), (3, Value.ref (ad 176)), (4, vI x1)]) dL_law_687 (by decide) rfl ?_
      refine a_aload_n (pc := 689) a 4 dL_law_689 rfl rfl ?_
      refine a_cvi (pc := 690) a (As := []) (rest := []) w2 vc7 (fun sz => c_X7_thrown hinj hl0  h sz) (cwV 0 hts (gl_V (GL_9 _ (by decide +kernel)) (GL_9 _ (by decide +kernel)) (GL_9 _ (by decide +kernel)) (GL_1 _ (by decide +kernel)) (GL_9 _ (by decide +kernel))) rfl rfl rfl (by decide +kernel) ⟨Nat.le_of_ble_eq_true rfl, Nat.le_of_ble_eq_true rfl⟩) rfl rfl (Nat.le_of_ble_eq_true rfl) ⟨by show cc9 + 1 + 0 + 0 ≤ 601024; have := hbud.2.1; have := hbud.1; omega, by show ss9 + 6 + 0 + 0 ≤ 7293034; have := hbud.2.2; have := hbud.1; omega⟩ dL_law_690 ?_
      rintro x37 s9 ⟨hs9, h9⟩
      subst s9
      replace h := h9
      clear h9
      refine a_iload (pc := 693) a 1 dL_law_693 rfl ?_
      refine a_icmp_eq (pc := 695) a h.1 h.2.1 dL_law_695 (tgt := 700) (by decide) (fun hq => ?_) (fun hq => ?_)
      · replace h := h.2.2.1 hq
        clear hq
        refine a_iload (pc := 700) a 1 dL_law_700 rfl ?_
        refine a_if_ne (pc := 702) a h.1 dL_law_702 (tgt := 717) (by decide) (fun hq => ?_) (fun hq => ?_)
        · replace h := h.2.1 hq
          clear hq
          refine a_goto (pc := 717) a dL_law_717 (tgt := 1560) (by decide) ?_
          refine a_iinc (pc := 1560) a (ls1 := [(4, vI (x1 + 6)), (6, vI x35), (5, vI x33), (0, Value.ref bb), (1, Value.ref (ad 0)), (2, Value.ref (ad 161)), (3, Value.ref (ad 176))]) 6 dL_law_1560 rfl (by decide) rfl ?_
          refine a_goto (pc := 1563) a dL_law_1563 (tgt := 23) (by decide) ?_
          refine a_sub (ls1 := [(0, Value.ref bb), (1, Value.ref (ad 0)), (2, Value.ref (ad 161)), (3, Value.ref (ad 176)), (4, vI (x1 + 6))]) [3, 4, 5, 6, 0] rfl ?_
          refine a_wid (cc9 + 6) (ss9 + 36) (by omega) (by omega) ?_
          exact hag23 (x1 + 6) s36 _ _ h ⟨by have := hbud.1; omega, by have := hbud.2.1; omega, by have := hbud.2.2; omega⟩
        · replace h := h.2.2 hq
          clear hq
          refine a_aload_n (pc := 705) a 5 dL_law_705 rfl rfl ?_
          refine a_iconst (pc := 706) a dL_law_706 ?_
          refine a_lald (pc := 707) a w1 (by decide) (by decide) dL_law_707 ?_
          refine a_iload (pc := 708) a 0 dL_law_708 rfl ?_
          refine a_i2l (pc := 710) a h.1 dL_law_710 ?_
          replace h := h.2
          refine a_lcmp0 (pc := 711) a h.1 dL_law_711 ?_
          replace h := h.2
          refine a_if_eq (pc := 712) a ⟨by decide, by decide⟩ dL_law_712 (tgt := 717) (by decide) (fun _ => ?_) (fun hq => absurd (by decide) hq)
          refine a_goto (pc := 717) a dL_law_717 (tgt := 1560) (by decide) ?_
          refine a_iinc (pc := 1560) a (ls1 := [(4, vI (x1 + 6)), (6, vI x35), (5, vI x33), (0, Value.ref bb), (1, Value.ref (ad 0)), (2, Value.ref (ad 161)), (3, Value.ref (ad 176))]) 6 dL_law_1560 rfl (by decide) rfl ?_
          refine a_goto (pc := 1563) a dL_law_1563 (tgt := 23) (by decide) ?_
          refine a_sub (ls1 := [(0, Value.ref bb), (1, Value.ref (ad 0)), (2, Value.ref (ad 161)), (3, Value.ref (ad 176)), (4, vI (x1 + 6))]) [3, 4, 5, 6, 0] rfl ?_
          refine a_wid (cc9 + 6) (ss9 + 36) (by omega) (by omega) ?_
          exact hag23 (x1 + 6) s36 _ _ h ⟨by have := hbud.1; omega, by have := hbud.2.1; omega, by have := hbud.2.2; omega⟩
      · replace h := h.2.2.2 hq
        clear hq
        refine a_iconst (pc := 698) a dL_law_698 ?_
        exact h.elim
    · replace h := h.2.2.2.2.2.2.2.2.1 hq
      refine a_tsIn (pc := 40) a 7 hq ⟨by decide, by decide⟩ dL_law_40 (by decide) (by decide) rfl (tgt := 720) (by decide) ?_
      clear hq
      refine a_aload_n (pc := 720) a 1 dL_law_720 rfl rfl ?_
      refine a_aload_n (pc := 721) a 0 dL_law_721 rfl rfl ?_
      refine a_iload (pc := 722) a 4 dL_law_722 rfl ?_
      refine a_iconst (pc := 724) a dL_law_724 ?_
      refine a_iadd (pc := 725) a dL_law_725 ?_
      refine a_sldx (pc := 726) a hX hxi hbl hbA hL h.1 dL_law_726 ?_
      replace h := h.2
      refine a_aload_n (pc := 727) a 0 dL_law_727 rfl rfl ?_
      refine a_iload (pc := 728) a 4 dL_law_728 rfl ?_
      refine a_iconst (pc := 730) a dL_law_730 ?_
      refine a_iadd (pc := 731) a dL_law_731 ?_
      refine a_sldx (pc := 732) a hX hxi hbl hbA hL h.1 dL_law_732 ?_
      replace h := h.2
      refine a_aload_n (pc := 733) a 3 dL_law_733 rfl rfl ?_
      refine a_cwi (pc := 734) a (As := [Value.ref (ad 0), vI (xi (x1 + 1)), vI (xi (x1 + 2)), Value.ref (ad 176)]) (rest := []) (fun sz => c_L_limit hinj hl0  h sz) (vx_cwSW 4 hts (gl_S (GL_14 _ (by decide +kernel)) (GL_14 _ (by decide +kernel)) (GL_5 _ (by decide +kernel)) (GL_14 _ (by decide +kernel))) rfl rfl rfl (by decide +kernel) ⟨Nat.le_of_ble_eq_true rfl, Nat.le_of_ble_eq_true rfl⟩) rfl rfl (Nat.le_of_ble_eq_true rfl) ⟨by show cc9 + 2 ≤ 601024; have := hbud.2.1; have := hbud.1; omega, by show ss9 + 12 ≤ 7293034; have := hbud.2.2; have := hbud.1; omega⟩ dL_law_734 ?_
      clear h
      intro x38 s39 h
      refine a_istore (pc := 737) a (ls1 := [(5, vI x38), (0, Value.ref bb), (1, Value.ref (ad 0)), (2, Value.ref (ad 161)), (3, Value.ref (ad 176)), (4, vI x1)]) dL_law_737 (by decide) rfl ?_
      refine a_aload_n (pc := 739) a 3 dL_law_739 rfl rfl ?_
      refine a_aload_n (pc := 740) a 1 dL_law_740 rfl rfl ?_
      refine a_iload (pc := 741) a 5 dL_law_741 rfl ?_
      refine a_iconst (pc := 743) a dL_law_743 ?_
      refine a_iadd (pc := 744) a dL_law_744 ?_
      refine a_sldx (pc := 745) a hX hxi hbl hbA hL h.1 dL_law_745 ?_
      replace h := h.2
      refine a_aload_n (pc := 746) a 1 dL_law_746 rfl rfl ?_
      refine a_iload (pc := 747) a 5 dL_law_747 rfl ?_
      refine a_iconst (pc := 749) a dL_law_749 ?_
      refine a_iadd (pc := 750) a dL_law_750 ?_
      refine a_sldx (pc := 751) a hX hxi hbl hbA hL h.1 dL_law_751 ?_
      replace h := h.2
      refine a_cvi (pc := 752) a (As := [vI (xi (x1 + 1)), vI (xi (x1 + 2))]) (rest := []) w2 vc7 (fun sz => c_X7_limit hinj hl0  h sz) (cwV 2 hts (gl_V (GL_15 _ (by decide +kernel)) (GL_15 _ (by decide +kernel)) (GL_15 _ (by decide +kernel)) (GL_1 _ (by decide +kernel)) (GL_15 _ (by decide +kernel))) rfl rfl rfl (by decide +kernel) ⟨Nat.le_of_ble_eq_true rfl, Nat.le_of_ble_eq_true rfl⟩) rfl rfl (Nat.le_of_ble_eq_true rfl) ⟨by show cc9 + 2 + 0 ≤ 601024; have := hbud.2.1; have := hbud.1; omega, by show ss9 + 12 + 0 ≤ 7293034; have := hbud.2.2; have := hbud.1; omega⟩ dL_law_752 ?_
      clear h
      intro x40 s41 h
      refine a_istore (pc := 755) a (ls1 := [(6, vI x40), (5, vI x38), (0, Value.ref bb), (1, Value.ref (ad 0)), (2, Value.ref (ad 161)), (3, Value.ref (ad 176)), (4, vI x1)]) dL_law_755 (by decide) rfl ?_
      refine a_aload_n (pc := 757) a 4 dL_law_757 rfl rfl ?_
      refine a_cvi (pc := 758) a (As := []) (rest := []) w2 vc7 (fun sz => c_X7_thrown hinj hl0  h sz) (cwV 0 hts (gl_V (GL_9 _ (by decide +kernel)) (GL_9 _ (by decide +kernel)) (GL_9 _ (by decide +kernel)) (GL_1 _ (by decide +kernel)) (GL_9 _ (by decide +kernel))) rfl rfl rfl (by decide +kernel) ⟨Nat.le_of_ble_eq_true rfl, Nat.le_of_ble_eq_true rfl⟩) rfl rfl (Nat.le_of_ble_eq_true rfl) ⟨by show cc9 + 2 + 0 + 0 ≤ 601024; have := hbud.2.1; have := hbud.1; omega, by show ss9 + 12 + 0 + 0 ≤ 7293034; have := hbud.2.2; have := hbud.1; omega⟩ dL_law_758 ?_
      rintro x42 s9 ⟨hs9, h9⟩
      subst s9
      replace h := h9
      clear h9
      refine a_iload (pc := 761) a 1 dL_law_761 rfl ?_
      refine a_icmp_eq (pc := 763) a h.1 h.2.1 dL_law_763 (tgt := 768) (by decide) (fun hq => ?_) (fun hq => ?_)
      · replace h := h.2.2.1 hq
        clear hq
        refine a_iload (pc := 768) a 1 dL_law_768 rfl ?_
        refine a_if_ne (pc := 770) a h.1 dL_law_770 (tgt := 785) (by decide) (fun hq => ?_) (fun hq => ?_)
        · replace h := h.2.1 hq
          clear hq
          refine a_goto (pc := 785) a dL_law_785 (tgt := 1560) (by decide) ?_
          refine a_iinc (pc := 1560) a (ls1 := [(4, vI (x1 + 6)), (6, vI x40), (5, vI x38), (0, Value.ref bb), (1, Value.ref (ad 0)), (2, Value.ref (ad 161)), (3, Value.ref (ad 176))]) 6 dL_law_1560 rfl (by decide) rfl ?_
          refine a_goto (pc := 1563) a dL_law_1563 (tgt := 23) (by decide) ?_
          refine a_sub (ls1 := [(0, Value.ref bb), (1, Value.ref (ad 0)), (2, Value.ref (ad 161)), (3, Value.ref (ad 176)), (4, vI (x1 + 6))]) [3, 4, 5, 6, 0] rfl ?_
          refine a_wid (cc9 + 6) (ss9 + 36) (by omega) (by omega) ?_
          exact hag23 (x1 + 6) s41 _ _ h ⟨by have := hbud.1; omega, by have := hbud.2.1; omega, by have := hbud.2.2; omega⟩
        · replace h := h.2.2 hq
          clear hq
          refine a_aload_n (pc := 773) a 5 dL_law_773 rfl rfl ?_
          refine a_iconst (pc := 774) a dL_law_774 ?_
          refine a_lald (pc := 775) a w1 (by decide) (by decide) dL_law_775 ?_
          refine a_iload (pc := 776) a 0 dL_law_776 rfl ?_
          refine a_i2l (pc := 778) a h.1 dL_law_778 ?_
          replace h := h.2
          refine a_lcmp0 (pc := 779) a h.1 dL_law_779 ?_
          replace h := h.2
          refine a_if_eq (pc := 780) a ⟨by decide, by decide⟩ dL_law_780 (tgt := 785) (by decide) (fun _ => ?_) (fun hq => absurd (by decide) hq)
          refine a_goto (pc := 785) a dL_law_785 (tgt := 1560) (by decide) ?_
          refine a_iinc (pc := 1560) a (ls1 := [(4, vI (x1 + 6)), (6, vI x40), (5, vI x38), (0, Value.ref bb), (1, Value.ref (ad 0)), (2, Value.ref (ad 161)), (3, Value.ref (ad 176))]) 6 dL_law_1560 rfl (by decide) rfl ?_
          refine a_goto (pc := 1563) a dL_law_1563 (tgt := 23) (by decide) ?_
          refine a_sub (ls1 := [(0, Value.ref bb), (1, Value.ref (ad 0)), (2, Value.ref (ad 161)), (3, Value.ref (ad 176)), (4, vI (x1 + 6))]) [3, 4, 5, 6, 0] rfl ?_
          refine a_wid (cc9 + 6) (ss9 + 36) (by omega) (by omega) ?_
          exact hag23 (x1 + 6) s41 _ _ h ⟨by have := hbud.1; omega, by have := hbud.2.1; omega, by have := hbud.2.2; omega⟩
      · replace h := h.2.2.2 hq
        clear hq
        refine a_iconst (pc := 766) a dL_law_766 ?_
        exact h.elim
    · replace h := h.2.2.2.2.2.2.2.2.2.1 hq
      refine a_tsIn (pc := 40) a 8 hq ⟨by decide, by decide⟩ dL_law_40 (by decide) (by decide) rfl (tgt := 788) (by decide) ?_
      clear hq
      refine a_aload_n (pc := 788) a 1 dL_law_788 rfl rfl ?_
      refine a_aload_n (pc := 789) a 0 dL_law_789 rfl rfl ?_
      refine a_iload (pc := 790) a 4 dL_law_790 rfl ?_
      refine a_iconst (pc := 792) a dL_law_792 ?_
      refine a_iadd (pc := 793) a dL_law_793 ?_
      refine a_sldx (pc := 794) a hX hxi hbl hbA hL h.1 dL_law_794 ?_
      replace h := h.2
      refine a_aload_n (pc := 795) a 3 dL_law_795 rfl rfl ?_
      refine a_cwi (pc := 796) a (As := [Value.ref (ad 0), vI (xi (x1 + 1)), Value.ref (ad 176)]) (rest := []) (fun sz => c_L_value hinj hl0  h sz) (vx_cwSW 3 hts (gl_S (GL_15 _ (by decide +kernel)) (GL_15 _ (by decide +kernel)) (GL_5 _ (by decide +kernel)) (GL_15 _ (by decide +kernel))) rfl rfl rfl (by decide +kernel) ⟨Nat.le_of_ble_eq_true rfl, Nat.le_of_ble_eq_true rfl⟩) rfl rfl (Nat.le_of_ble_eq_true rfl) ⟨by show cc9 + 1 ≤ 601024; have := hbud.2.1; have := hbud.1; omega, by show ss9 + 6 ≤ 7293034; have := hbud.2.2; have := hbud.1; omega⟩ dL_law_796 ?_
      clear h
      intro x43 s44 h
      refine a_istore (pc := 799) a (ls1 := [(5, vI x43), (0, Value.ref bb), (1, Value.ref (ad 0)), (2, Value.ref (ad 161)), (3, Value.ref (ad 176)), (4, vI x1)]) dL_law_799 (by decide) rfl ?_
      refine a_aload_n (pc := 801) a 3 dL_law_801 rfl rfl ?_
      refine a_aload_n (pc := 802) a 1 dL_law_802 rfl rfl ?_
      refine a_iload (pc := 803) a 5 dL_law_803 rfl ?_
      refine a_iconst (pc := 805) a dL_law_805 ?_
      refine a_iadd (pc := 806) a dL_law_806 ?_
      refine a_sldx (pc := 807) a hX hxi hbl hbA hL h.1 dL_law_807 ?_
      replace h := h.2
      refine a_cvi (pc := 808) a (As := [vI (xi (x1 + 1))]) (rest := []) w2 vc7 (fun sz => c_X7_value hinj hl0  h sz) (cwV 1 hts (gl_V (GL_21 _ (by decide +kernel)) (GL_21 _ (by decide +kernel)) (GL_21 _ (by decide +kernel)) (GL_1 _ (by decide +kernel)) (GL_21 _ (by decide +kernel))) rfl rfl rfl (by decide +kernel) ⟨Nat.le_of_ble_eq_true rfl, Nat.le_of_ble_eq_true rfl⟩) rfl rfl (Nat.le_of_ble_eq_true rfl) ⟨by show cc9 + 1 + 0 ≤ 601024; have := hbud.2.1; have := hbud.1; omega, by show ss9 + 6 + 0 ≤ 7293034; have := hbud.2.2; have := hbud.1; omega⟩ dL_law_808 ?_
      clear h
      intro x45 s46 h
      refine a_istore (pc := 811) a (ls1 := [(6, vI x45), (5, vI x43), (0, Value.ref bb), (1, Value.ref (ad 0)), (2, Value.ref (ad 161)), (3, Value.ref (ad 176)), (4, vI x1)]) dL_law_811 (by decide) rfl ?_
      refine a_aload_n (pc := 813) a 4 dL_law_813 rfl rfl ?_
      refine a_cvi (pc := 814) a (As := []) (rest := []) w2 vc7 (fun sz => c_X7_thrown hinj hl0  h sz) (cwV 0 hts (gl_V (GL_9 _ (by decide +kernel)) (GL_9 _ (by decide +kernel)) (GL_9 _ (by decide +kernel)) (GL_1 _ (by decide +kernel)) (GL_9 _ (by decide +kernel))) rfl rfl rfl (by decide +kernel) ⟨Nat.le_of_ble_eq_true rfl, Nat.le_of_ble_eq_true rfl⟩) rfl rfl (Nat.le_of_ble_eq_true rfl) ⟨by show cc9 + 1 + 0 + 0 ≤ 601024; have := hbud.2.1; have := hbud.1; omega, by show ss9 + 6 + 0 + 0 ≤ 7293034; have := hbud.2.2; have := hbud.1; omega⟩ dL_law_814 ?_
      rintro x47 s9 ⟨hs9, h9⟩
      subst s9
      replace h := h9
      clear h9
      refine a_iload (pc := 817) a 1 dL_law_817 rfl ?_
      refine a_icmp_eq (pc := 819) a h.1 h.2.1 dL_law_819 (tgt := 824) (by decide) (fun hq => ?_) (fun hq => ?_)
      · replace h := h.2.2.1 hq
        clear hq
        refine a_iload (pc := 824) a 1 dL_law_824 rfl ?_
        refine a_if_ne (pc := 826) a h.1 dL_law_826 (tgt := 841) (by decide) (fun hq => ?_) (fun hq => ?_)
        · replace h := h.2.1 hq
          clear hq
          refine a_goto (pc := 841) a dL_law_841 (tgt := 1560) (by decide) ?_
          refine a_iinc (pc := 1560) a (ls1 := [(4, vI (x1 + 6)), (6, vI x45), (5, vI x43), (0, Value.ref bb), (1, Value.ref (ad 0)), (2, Value.ref (ad 161)), (3, Value.ref (ad 176))]) 6 dL_law_1560 rfl (by decide) rfl ?_
          refine a_goto (pc := 1563) a dL_law_1563 (tgt := 23) (by decide) ?_
          refine a_sub (ls1 := [(0, Value.ref bb), (1, Value.ref (ad 0)), (2, Value.ref (ad 161)), (3, Value.ref (ad 176)), (4, vI (x1 + 6))]) [3, 4, 5, 6, 0] rfl ?_
          refine a_wid (cc9 + 6) (ss9 + 36) (by omega) (by omega) ?_
          exact hag23 (x1 + 6) s46 _ _ h ⟨by have := hbud.1; omega, by have := hbud.2.1; omega, by have := hbud.2.2; omega⟩
        · replace h := h.2.2 hq
          clear hq
          refine a_aload_n (pc := 829) a 5 dL_law_829 rfl rfl ?_
          refine a_iconst (pc := 830) a dL_law_830 ?_
          refine a_lald (pc := 831) a w1 (by decide) (by decide) dL_law_831 ?_
          refine a_iload (pc := 832) a 0 dL_law_832 rfl ?_
          refine a_i2l (pc := 834) a h.1 dL_law_834 ?_
          replace h := h.2
          refine a_lcmp0 (pc := 835) a h.1 dL_law_835 ?_
          replace h := h.2
          refine a_if_eq (pc := 836) a ⟨by decide, by decide⟩ dL_law_836 (tgt := 841) (by decide) (fun _ => ?_) (fun hq => absurd (by decide) hq)
          refine a_goto (pc := 841) a dL_law_841 (tgt := 1560) (by decide) ?_
          refine a_iinc (pc := 1560) a (ls1 := [(4, vI (x1 + 6)), (6, vI x45), (5, vI x43), (0, Value.ref bb), (1, Value.ref (ad 0)), (2, Value.ref (ad 161)), (3, Value.ref (ad 176))]) 6 dL_law_1560 rfl (by decide) rfl ?_
          refine a_goto (pc := 1563) a dL_law_1563 (tgt := 23) (by decide) ?_
          refine a_sub (ls1 := [(0, Value.ref bb), (1, Value.ref (ad 0)), (2, Value.ref (ad 161)), (3, Value.ref (ad 176)), (4, vI (x1 + 6))]) [3, 4, 5, 6, 0] rfl ?_
          refine a_wid (cc9 + 6) (ss9 + 36) (by omega) (by omega) ?_
          exact hag23 (x1 + 6) s46 _ _ h ⟨by have := hbud.1; omega, by have := hbud.2.1; omega, by have := hbud.2.2; omega⟩
      · replace h := h.2.2.2 hq
        clear hq
        refine a_iconst (pc := 822) a dL_law_822 ?_
        exact h.elim
    · replace h := h.2.2.2.2.2.2.2.2.2.2.1 hq
      refine a_tsIn (pc := 40) a 9 hq ⟨by decide, by decide⟩ dL_law_40 (by decide) (by decide) rfl (tgt := 844) (by decide) ?_
      clear hq
      refine a_aload_n (pc := 844) a 1 dL_law_844 rfl rfl ?_
      refine a_aload_n (pc := 845) a 0 dL_law_845 rfl rfl ?_
      refine a_iload (pc := 846) a 4 dL_law_846 rfl ?_
      refine a_iconst (pc := 848) a dL_law_848 ?_
      refine a_iadd (pc := 849) a dL_law_849 ?_
      refine a_sldx (pc := 850) a hX hxi hbl hbA hL h.1 dL_law_850 ?_
      replace h := h.2
      refine a_aload_n (pc := 851) a 0 dL_law_851 rfl rfl ?_
      refine a_iload (pc := 852) a 4 dL_law_852 rfl ?_
      refine a_iconst (pc := 854) a dL_law_854 ?_
      refine a_iadd (pc := 855) a dL_law_855 ?_
      refine a_sldx (pc := 856) a hX hxi hbl hbA hL h.1 dL_law_856 ?_
      replace h := h.2
      refine a_aload_n (pc := 857) a 3 dL_law_857 rfl rfl ?_
      refine a_cwi (pc := 858) a (As := [Value.ref (ad 0), vI (xi (x1 + 1)), vI (xi (x1 + 2)), Value.ref (ad 176)]) (rest := []) (fun sz => c_L_sign hinj hl0  h sz) (vx_cwSW 4 hts (gl_S (GL_25 _ (by decide +kernel)) (GL_25 _ (by decide +kernel)) (GL_5 _ (by decide +kernel)) (GL_25 _ (by decide +kernel))) rfl rfl rfl (by decide +kernel) ⟨Nat.le_of_ble_eq_true rfl, Nat.le_of_ble_eq_true rfl⟩) rfl rfl (Nat.le_of_ble_eq_true rfl) ⟨by show cc9 + 2 ≤ 601024; have := hbud.2.1; have := hbud.1; omega, by show ss9 + 12 ≤ 7293034; have := hbud.2.2; have := hbud.1; omega⟩ dL_law_858 ?_
      clear h
      intro x48 s49 h
      refine a_istore (pc := 861) a (ls1 := [(5, vI x48), (0, Value.ref bb), (1, Value.ref (ad 0)), (2, Value.ref (ad 161)), (3, Value.ref (ad 176)), (4, vI x1)]) dL_law_861 (by decide) rfl ?_
      refine a_aload_n (pc := 863) a 3 dL_law_863 rfl rfl ?_
      refine a_aload_n (pc := 864) a 1 dL_law_864 rfl rfl ?_
      refine a_iload (pc := 865) a 5 dL_law_865 rfl ?_
      refine a_iconst (pc := 867) a dL_law_867 ?_
      refine a_iadd (pc := 868) a dL_law_868 ?_
      refine a_sldx (pc := 869) a hX hxi hbl hbA hL h.1 dL_law_869 ?_
      replace h := h.2
      refine a_aload_n (pc := 870) a 1 dL_law_870 rfl rfl ?_
      refine a_iload (pc := 871) a 5 dL_law_871 rfl ?_
      refine a_iconst (pc := 873) a dL_law_873 ?_
      refine a_iadd (pc := 874) a dL_law_874 ?_
      refine a_sldx (pc := 875) a hX hxi hbl hbA hL h.1 dL_law_875 ?_
      replace h := h.2
      refine a_cvi (pc := 876) a (As := [vI (xi (x1 + 1)), vI (xi (x1 + 2))]) (rest := []) w2 vc7 (fun sz => c_X7_sign hinj hl0  h sz) (cwV 2 hts (gl_V (GL_26 _ (by decide +kernel)) (GL_26 _ (by decide +kernel)) (GL_26 _ (by decide +kernel)) (GL_1 _ (by decide +kernel)) (GL_26 _ (by decide +kernel))) rfl rfl rfl (by decide +kernel) ⟨Nat.le_of_ble_eq_true rfl, Nat.le_of_ble_eq_true rfl⟩) rfl rfl (Nat.le_of_ble_eq_true rfl) ⟨by show cc9 + 2 + 0 ≤ 601024; have := hbud.2.1; have := hbud.1; omega, by show ss9 + 12 + 0 ≤ 7293034; have := hbud.2.2; have := hbud.1; omega⟩ dL_law_876 ?_
      clear h
      intro x50 s51 h
      refine a_istore (pc := 879) a (ls1 := [(6, vI x50), (5, vI x48), (0, Value.ref bb), (1, Value.ref (ad 0)), (2, Value.ref (ad 161)), (3, Value.ref (ad 176)), (4, vI x1)]) dL_law_879 (by decide) rfl ?_
      refine a_aload_n (pc := 881) a 4 dL_law_881 rfl rfl ?_
      refine a_cvi (pc := 882) a (As := []) (rest := []) w2 vc7 (fun sz => c_X7_thrown hinj hl0  h sz) (cwV 0 hts (gl_V (GL_9 _ (by decide +kernel)) (GL_9 _ (by decide +kernel)) (GL_9 _ (by decide +kernel)) (GL_1 _ (by decide +kernel)) (GL_9 _ (by decide +kernel))) rfl rfl rfl (by decide +kernel) ⟨Nat.le_of_ble_eq_true rfl, Nat.le_of_ble_eq_true rfl⟩) rfl rfl (Nat.le_of_ble_eq_true rfl) ⟨by show cc9 + 2 + 0 + 0 ≤ 601024; have := hbud.2.1; have := hbud.1; omega, by show ss9 + 12 + 0 + 0 ≤ 7293034; have := hbud.2.2; have := hbud.1; omega⟩ dL_law_882 ?_
      rintro x52 s9 ⟨hs9, h9⟩
      subst s9
      replace h := h9
      clear h9
      refine a_iload (pc := 885) a 1 dL_law_885 rfl ?_
      refine a_icmp_eq (pc := 887) a h.1 h.2.1 dL_law_887 (tgt := 892) (by decide) (fun hq => ?_) (fun hq => ?_)
      · replace h := h.2.2.1 hq
        clear hq
        refine a_iload (pc := 892) a 1 dL_law_892 rfl ?_
        refine a_if_ne (pc := 894) a h.1 dL_law_894 (tgt := 909) (by decide) (fun hq => ?_) (fun hq => ?_)
        · replace h := h.2.1 hq
          clear hq
          refine a_goto (pc := 909) a dL_law_909 (tgt := 1560) (by decide) ?_
          refine a_iinc (pc := 1560) a (ls1 := [(4, vI (x1 + 6)), (6, vI x50), (5, vI x48), (0, Value.ref bb), (1, Value.ref (ad 0)), (2, Value.ref (ad 161)), (3, Value.ref (ad 176))]) 6 dL_law_1560 rfl (by decide) rfl ?_
          refine a_goto (pc := 1563) a dL_law_1563 (tgt := 23) (by decide) ?_
          refine a_sub (ls1 := [(0, Value.ref bb), (1, Value.ref (ad 0)), (2, Value.ref (ad 161)), (3, Value.ref (ad 176)), (4, vI (x1 + 6))]) [3, 4, 5, 6, 0] rfl ?_
          refine a_wid (cc9 + 6) (ss9 + 36) (by omega) (by omega) ?_
          exact hag23 (x1 + 6) s51 _ _ h ⟨by have := hbud.1; omega, by have := hbud.2.1; omega, by have := hbud.2.2; omega⟩
        · replace h := h.2.2 hq
          clear hq
          refine a_aload_n (pc := 897) a 5 dL_law_897 rfl rfl ?_
          refine a_iconst (pc := 898) a dL_law_898 ?_
          refine a_lald (pc := 899) a w1 (by decide) (by decide) dL_law_899 ?_
          refine a_iload (pc := 900) a 0 dL_law_900 rfl ?_
          refine a_i2l (pc := 902) a h.1 dL_law_902 ?_
          replace h := h.2
          refine a_lcmp0 (pc := 903) a h.1 dL_law_903 ?_
          replace h := h.2
          refine a_if_eq (pc := 904) a ⟨by decide, by decide⟩ dL_law_904 (tgt := 909) (by decide) (fun _ => ?_) (fun hq => absurd (by decide) hq)
          refine a_goto (pc := 909) a dL_law_909 (tgt := 1560) (by decide) ?_
          refine a_iinc (pc := 1560) a (ls1 := [(4, vI (x1 + 6)), (6, vI x50), (5, vI x48), (0, Value.ref bb), (1, Value.ref (ad 0)), (2, Value.ref (ad 161)), (3, Value.ref (ad 176))]) 6 dL_law_1560 rfl (by decide) rfl ?_
          refine a_goto (pc := 1563) a dL_law_1563 (tgt := 23) (by decide) ?_
          refine a_sub (ls1 := [(0, Value.ref bb), (1, Value.ref (ad 0)), (2, Value.ref (ad 161)), (3, Value.ref (ad 176)), (4, vI (x1 + 6))]) [3, 4, 5, 6, 0] rfl ?_
          refine a_wid (cc9 + 6) (ss9 + 36) (by omega) (by omega) ?_
          exact hag23 (x1 + 6) s51 _ _ h ⟨by have := hbud.1; omega, by have := hbud.2.1; omega, by have := hbud.2.2; omega⟩
      · replace h := h.2.2.2 hq
        clear hq
        refine a_iconst (pc := 890) a dL_law_890 ?_
        exact h.elim
    · replace h := h.2.2.2.2.2.2.2.2.2.2.2.1 hq
      refine a_tsIn (pc := 40) a 10 hq ⟨by decide, by decide⟩ dL_law_40 (by decide) (by decide) rfl (tgt := 912) (by decide) ?_
      clear hq
      refine a_aload_n (pc := 912) a 1 dL_law_912 rfl rfl ?_
      refine a_aload_n (pc := 913) a 0 dL_law_913 rfl rfl ?_
      refine a_iload (pc := 914) a 4 dL_law_914 rfl ?_
      refine a_iconst (pc := 916) a dL_law_916 ?_
      refine a_iadd (pc := 917) a dL_law_917 ?_
      refine a_sldx (pc := 918) a hX hxi hbl hbA hL h.1 dL_law_918 ?_
      replace h := h.2
      refine a_aload_n (pc := 919) a 0 dL_law_919 rfl rfl ?_
      refine a_iload (pc := 920) a 4 dL_law_920 rfl ?_
      refine a_iconst (pc := 922) a dL_law_922 ?_
      refine a_iadd (pc := 923) a dL_law_923 ?_
      refine a_sldx (pc := 924) a hX hxi hbl hbA hL h.1 dL_law_924 ?_
      replace h := h.2
      refine a_aload_n (pc := 925) a 3 dL_law_925 rfl rfl ?_
      refine a_cwi (pc := 926) a (As := [Value.ref (ad 0), vI (xi (x1 + 1)), vI (xi (x1 + 2)), Value.ref (ad 176)]) (rest := []) (fun sz => c_L_kind hinj hl0  h sz) (vx_cwSW 4 hts (gl_S (GL_27 _ (by decide +kernel)) (GL_27 _ (by decide +kernel)) (GL_5 _ (by decide +kernel)) (GL_27 _ (by decide +kernel))) rfl rfl rfl (by decide +kernel) ⟨Nat.le_of_ble_eq_true rfl, Nat.le_of_ble_eq_true rfl⟩) rfl rfl (Nat.le_of_ble_eq_true rfl) ⟨by show cc9 + 2 ≤ 601024; have := hbud.2.1; have := hbud.1; omega, by show ss9 + 12 ≤ 7293034; have := hbud.2.2; have := hbud.1; omega⟩ dL_law_926 ?_
      clear h
      intro x53 s54 h
      refine a_istore (pc := 929) a (ls1 := [(5, vI x53), (0, Value.ref bb), (1, Value.ref (ad 0)), (2, Value.ref (ad 161)), (3, Value.ref (ad 176)), (4, vI x1)]) dL_law_929 (by decide) rfl ?_
      refine a_aload_n (pc := 931) a 3 dL_law_931 rfl rfl ?_
      refine a_aload_n (pc := 932) a 1 dL_law_932 rfl rfl ?_
      refine a_iload (pc := 933) a 5 dL_law_933 rfl ?_
      refine a_iconst (pc := 935) a dL_law_935 ?_
      refine a_iadd (pc := 936) a dL_law_936 ?_
      refine a_sldx (pc := 937) a hX hxi hbl hbA hL h.1 dL_law_937 ?_
      replace h := h.2
      refine a_aload_n (pc := 938) a 1 dL_law_938 rfl rfl ?_
      refine a_iload (pc := 939) a 5 dL_law_939 rfl ?_
      refine a_iconst (pc := 941) a dL_law_941 ?_
      refine a_iadd (pc := 942) a dL_law_942 ?_
      refine a_sldx (pc := 943) a hX hxi hbl hbA hL h.1 dL_law_943 ?_
      replace h := h.2
      refine a_cvi (pc := 944) a (As := [vI (xi (x1 + 1)), vI (xi (x1 + 2))]) (rest := []) w2 vc7 (fun sz => c_X7_kind hinj hl0  h sz) (cwV 2 hts (gl_V (GL_28 _ (by decide +kernel)) (GL_28 _ (by decide +kernel)) (GL_28 _ (by decide +kernel)) (GL_1 _ (by decide +kernel)) (GL_28 _ (by decide +kernel))) rfl rfl rfl (by decide +kernel) ⟨Nat.le_of_ble_eq_true rfl, Nat.le_of_ble_eq_true rfl⟩) rfl rfl (Nat.le_of_ble_eq_true rfl) ⟨by show cc9 + 2 + 0 ≤ 601024; have := hbud.2.1; have := hbud.1; omega, by show ss9 + 12 + 0 ≤ 7293034; have := hbud.2.2; have := hbud.1; omega⟩ dL_law_944 ?_
      clear h
      intro x55 s56 h
      refine a_istore (pc := 947) a (ls1 := [(6, vI x55), (5, vI x53), (0, Value.ref bb), (1, Value.ref (ad 0)), (2, Value.ref (ad 161)), (3, Value.ref (ad 176)), (4, vI x1)]) dL_law_947 (by decide) rfl ?_
      refine a_aload_n (pc := 949) a 4 dL_law_949 rfl rfl ?_
      refine a_cvi (pc := 950) a (As := []) (rest := []) w2 vc7 (fun sz => c_X7_thrown hinj hl0  h sz) (cwV 0 hts (gl_V (GL_9 _ (by decide +kernel)) (GL_9 _ (by decide +kernel)) (GL_9 _ (by decide +kernel)) (GL_1 _ (by decide +kernel)) (GL_9 _ (by decide +kernel))) rfl rfl rfl (by decide +kernel) ⟨Nat.le_of_ble_eq_true rfl, Nat.le_of_ble_eq_true rfl⟩) rfl rfl (Nat.le_of_ble_eq_true rfl) ⟨by show cc9 + 2 + 0 + 0 ≤ 601024; have := hbud.2.1; have := hbud.1; omega, by show ss9 + 12 + 0 + 0 ≤ 7293034; have := hbud.2.2; have := hbud.1; omega⟩ dL_law_950 ?_
      rintro x57 s9 ⟨hs9, h9⟩
      subst s9
      replace h := h9
      clear h9
      refine a_iload (pc := 953) a 1 dL_law_953 rfl ?_
      refine a_icmp_eq (pc := 955) a h.1 h.2.1 dL_law_955 (tgt := 960) (by decide) (fun hq => ?_) (fun hq => ?_)
      · replace h := h.2.2.1 hq
        clear hq
        refine a_iload (pc := 960) a 1 dL_law_960 rfl ?_
        refine a_if_ne (pc := 962) a h.1 dL_law_962 (tgt := 977) (by decide) (fun hq => ?_) (fun hq => ?_)
        · replace h := h.2.1 hq
          clear hq
          refine a_goto (pc := 977) a dL_law_977 (tgt := 1560) (by decide) ?_
          refine a_iinc (pc := 1560) a (ls1 := [(4, vI (x1 + 6)), (6, vI x55), (5, vI x53), (0, Value.ref bb), (1, Value.ref (ad 0)), (2, Value.ref (ad 161)), (3, Value.ref (ad 176))]) 6 dL_law_1560 rfl (by decide) rfl ?_
          refine a_goto (pc := 1563) a dL_law_1563 (tgt := 23) (by decide) ?_
          refine a_sub (ls1 := [(0, Value.ref bb), (1, Value.ref (ad 0)), (2, Value.ref (ad 161)), (3, Value.ref (ad 176)), (4, vI (x1 + 6))]) [3, 4, 5, 6, 0] rfl ?_
          refine a_wid (cc9 + 6) (ss9 + 36) (by omega) (by omega) ?_
          exact hag23 (x1 + 6) s56 _ _ h ⟨by have := hbud.1; omega, by have := hbud.2.1; omega, by have := hbud.2.2; omega⟩
        · replace h := h.2.2 hq
          clear hq
          refine a_aload_n (pc := 965) a 5 dL_law_965 rfl rfl ?_
          refine a_iconst (pc := 966) a dL_law_966 ?_
          refine a_lald (pc := 967) a w1 (by decide) (by decide) dL_law_967 ?_
          refine a_iload (pc := 968) a 0 dL_law_968 rfl ?_
          refine a_i2l (pc := 970) a h.1 dL_law_970 ?_
          replace h := h.2
          refine a_lcmp0 (pc := 971) a h.1 dL_law_971 ?_
          replace h := h.2
          refine a_if_eq (pc := 972) a ⟨by decide, by decide⟩ dL_law_972 (tgt := 977) (by decide) (fun _ => ?_) (fun hq => absurd (by decide) hq)
          refine a_goto (pc := 977) a dL_law_977 (tgt := 1560) (by decide) ?_
          refine a_iinc (pc := 1560) a (ls1 := [(4, vI (x1 + 6)), (6, vI x55), (5, vI x53), (0, Value.ref bb), (1, Value.ref (ad 0)), (2, Value.ref (ad 161)), (3, Value.ref (ad 176))]) 6 dL_law_1560 rfl (by decide) rfl ?_
          refine a_goto (pc := 1563) a dL_law_1563 (tgt := 23) (by decide) ?_
          refine a_sub (ls1 := [(0, Value.ref bb), (1, Value.ref (ad 0)), (2, Value.ref (ad 161)), (3, Value.ref (ad 176)), (4, vI (x1 + 6))]) [3, 4, 5, 6, 0] rfl ?_
          refine a_wid (cc9 + 6) (ss9 + 36) (by omega) (by omega) ?_
          exact hag23 (x1 + 6) s56 _ _ h ⟨by have := hbud.1; omega, by have := hbud.2.1; omega, by have := hbud.2.2; omega⟩
      · replace h := h.2.2.2 hq
        clear hq
        refine a_iconst (pc := 958) a dL_law_958 ?_
        exact h.elim
    · replace h := h.2.2.2.2.2.2.2.2.2.2.2.2.1 hq
      refine a_tsIn (pc := 40) a 11 hq ⟨by decide, by decide⟩ dL_law_40 (by decide) (by decide) rfl (tgt := 980) (by decide) ?_
      clear hq
      refine a_aload_n (pc := 980) a 1 dL_law_980 rfl rfl ?_
      refine a_cvi (pc := 981) a (As := []) (rest := []) w3 vc6 (fun sz => c_X6_lines hinj hl0  h sz) (cwV 0 hts (gl_V (GL_28 _ (by decide +kernel)) (GL_28 _ (by decide +kernel)) (GL_28 _ (by decide +kernel)) (GL_1 _ (by decide +kernel)) (GL_28 _ (by decide +kernel))) rfl rfl rfl (by decide +kernel) ⟨Nat.le_of_ble_eq_true rfl, Nat.le_of_ble_eq_true rfl⟩) rfl rfl (Nat.le_of_ble_eq_true rfl) ⟨by show cc9 + 0 ≤ 601024; have := hbud.2.1; have := hbud.1; omega, by show ss9 + 0 ≤ 7293034; have := hbud.2.2; have := hbud.1; omega⟩ dL_law_981 ?_
      clear h
      intro x58 s59 h
      refine a_aload_n (pc := 984) a 2 dL_law_984 rfl rfl ?_
      refine a_cvi (pc := 985) a (As := []) (rest := [vI x58]) w2 vc7 (fun sz => c_X7_lines hinj hl0  h sz) (cwV 0 hts (gl_V (GL_28 _ (by decide +kernel)) (GL_28 _ (by decide +kernel)) (GL_28 _ (by decide +kernel)) (GL_1 _ (by decide +kernel)) (GL_28 _ (by decide +kernel))) rfl rfl rfl (by decide +kernel) ⟨Nat.le_of_ble_eq_true rfl, Nat.le_of_ble_eq_true rfl⟩) rfl rfl (Nat.le_of_ble_eq_true rfl) ⟨by show cc9 + 0 + 0 ≤ 601024; have := hbud.2.1; have := hbud.1; omega, by show ss9 + 0 + 0 ≤ 7293034; have := hbud.2.2; have := hbud.1; omega⟩ dL_law_985 ?_
      clear h
      intro x60 s61 h
      refine a_icmp_eq (pc := 988) a h.1 h.2.1 dL_law_988 (tgt := 1560) (by decide) (fun hq => ?_) (fun hq => ?_)
      · replace h := h.2.2.1 hq
        clear hq
        refine a_iinc (pc := 1560) a (ls1 := [(4, vI (x1 + 6)), (0, Value.ref bb), (1, Value.ref (ad 0)), (2, Value.ref (ad 161)), (3, Value.ref (ad 176))]) 4 dL_law_1560 rfl (by decide) rfl ?_
        refine a_goto (pc := 1563) a dL_law_1563 (tgt := 23) (by decide) ?_
        refine a_sub (ls1 := [(0, Value.ref bb), (1, Value.ref (ad 0)), (2, Value.ref (ad 161)), (3, Value.ref (ad 176)), (4, vI (x1 + 6))]) [1, 2, 3, 4, 0] rfl ?_
        refine a_wid (cc9 + 6) (ss9 + 36) (by omega) (by omega) ?_
        exact hag23 (x1 + 6) s61 _ _ h ⟨by have := hbud.1; omega, by have := hbud.2.1; omega, by have := hbud.2.2; omega⟩
      · replace h := h.2.2.2 hq
        clear hq
        refine a_iconst (pc := 991) a dL_law_991 ?_
        exact h.elim
    · replace h := h.2.2.2.2.2.2.2.2.2.2.2.2.2.1 hq
      refine a_tsIn (pc := 40) a 12 hq ⟨by decide, by decide⟩ dL_law_40 (by decide) (by decide) rfl (tgt := 993) (by decide) ?_
      clear hq
      refine a_aload_n (pc := 993) a 1 dL_law_993 rfl rfl ?_
      refine a_aload_n (pc := 994) a 0 dL_law_994 rfl rfl ?_
      refine a_iload (pc := 995) a 4 dL_law_995 rfl ?_
      refine a_iconst (pc := 997) a dL_law_997 ?_
      refine a_iadd (pc := 998) a dL_law_998 ?_
      refine a_sldx (pc := 999) a hX hxi hbl hbA hL h.1 dL_law_999 ?_
      replace h := h.2
      refine a_aload_n (pc := 1000) a 0 dL_law_1000 rfl rfl ?_
      refine a_iload (pc := 1001) a 4 dL_law_1001 rfl ?_
      refine a_iconst (pc := 1003) a dL_law_1003 ?_
      refine a_iadd (pc := 1004) a dL_law_1004 ?_
      refine a_sldx (pc := 1005) a hX hxi hbl hbA hL h.1 dL_law_1005 ?_
      replace h := h.2
      refine a_aload_n (pc := 1006) a 3 dL_law_1006 rfl rfl ?_
      refine a_cwi (pc := 1007) a (As := [Value.ref (ad 0), vI (xi (x1 + 1)), vI (xi (x1 + 2)), Value.ref (ad 176)]) (rest := []) (fun sz => c_L_line hinj hl0  h sz) (vx_cwSW 4 hts (gl_S (GL_29 _ (by decide +kernel)) (GL_29 _ (by decide +kernel)) (GL_5 _ (by decide +kernel)) (GL_29 _ (by decide +kernel))) rfl rfl rfl (by decide +kernel) ⟨Nat.le_of_ble_eq_true rfl, Nat.le_of_ble_eq_true rfl⟩) rfl rfl (Nat.le_of_ble_eq_true rfl) ⟨by show cc9 + 1 ≤ 601024; have := hbud.2.1; have := hbud.1; omega, by show ss9 + 6 ≤ 7293034; have := hbud.2.2; have := hbud.1; omega⟩ dL_law_1007 ?_
      clear h
      intro x62 s63 h
      refine a_istore (pc := 1010) a (ls1 := [(5, vI x62), (0, Value.ref bb), (1, Value.ref (ad 0)), (2, Value.ref (ad 161)), (3, Value.ref (ad 176)), (4, vI x1)]) dL_law_1010 (by decide) rfl ?_
      refine a_aload_n (pc := 1012) a 3 dL_law_1012 rfl rfl ?_
      refine a_aload_n (pc := 1013) a 1 dL_law_1013 rfl rfl ?_
      refine a_iload (pc := 1014) a 5 dL_law_1014 rfl ?_
      refine a_iconst (pc := 1016) a dL_law_1016 ?_
      refine a_iadd (pc := 1017) a dL_law_1017 ?_
      refine a_sldx (pc := 1018) a hX hxi hbl hbA hL h.1 dL_law_1018 ?_
      replace h := h.2
      refine a_aload_n (pc := 1019) a 1 dL_law_1019 rfl rfl ?_
      refine a_iload (pc := 1020) a 5 dL_law_1020 rfl ?_
      refine a_iconst (pc := 1022) a dL_law_1022 ?_
      refine a_iadd (pc := 1023) a dL_law_1023 ?_
      refine a_sldx (pc := 1024) a hX hxi hbl hbA hL h.1 dL_law_1024 ?_
      replace h := h.2
      refine a_cvi (pc := 1025) a (As := [vI (xi (x1 + 1)), vI (xi (x1 + 2))]) (rest := []) w2 vc7 (fun sz => c_X7_line hinj hl0  h sz) (cwV 2 hts (gl_V (GL_29 _ (by decide +kernel)) (GL_29 _ (by decide +kernel)) (GL_29 _ (by decide +kernel)) (GL_1 _ (by decide +kernel)) (GL_29 _ (by decide +kernel))) rfl rfl rfl (by decide +kernel) ⟨Nat.le_of_ble_eq_true rfl, Nat.le_of_ble_eq_true rfl⟩) rfl rfl (Nat.le_of_ble_eq_true rfl) ⟨by show cc9 + 1 + 0 ≤ 601024; have := hbud.2.1; have := hbud.1; omega, by show ss9 + 6 + 0 ≤ 7293034; have := hbud.2.2; have := hbud.1; omega⟩ dL_law_1025 ?_
      clear h
      intro x64 s65 h
      refine a_istore (pc := 1028) a (ls1 := [(6, vI x64), (5, vI x62), (0, Value.ref bb), (1, Value.ref (ad 0)), (2, Value.ref (ad 161)), (3, Value.ref (ad 176)), (4, vI x1)]) dL_law_1028 (by decide) rfl ?_
      refine a_aload_n (pc := 1030) a 4 dL_law_1030 rfl rfl ?_
      refine a_cvi (pc := 1031) a (As := []) (rest := []) w2 vc7 (fun sz => c_X7_thrown hinj hl0  h sz) (cwV 0 hts (gl_V (GL_9 _ (by decide +kernel)) (GL_9 _ (by decide +kernel)) (GL_9 _ (by decide +kernel)) (GL_1 _ (by decide +kernel)) (GL_9 _ (by decide +kernel))) rfl rfl rfl (by decide +kernel) ⟨Nat.le_of_ble_eq_true rfl, Nat.le_of_ble_eq_true rfl⟩) rfl rfl (Nat.le_of_ble_eq_true rfl) ⟨by show cc9 + 1 + 0 + 0 ≤ 601024; have := hbud.2.1; have := hbud.1; omega, by show ss9 + 6 + 0 + 0 ≤ 7293034; have := hbud.2.2; have := hbud.1; omega⟩ dL_law_1031 ?_
      rintro x66 s9 ⟨hs9, h9⟩
      subst s9
      replace h := h9
      clear h9
      refine a_iload (pc := 1034) a 1 dL_law_1034 rfl ?_
      refine a_icmp_eq (pc := 1036) a h.1 h.2.1 dL_law_1036 (tgt := 1041) (by decide) (fun hq => ?_) (fun hq => ?_)
      · replace h := h.2.2.1 hq
        clear hq
        refine a_iload (pc := 1041) a 1 dL_law_1041 rfl ?_
        refine a_if_ne (pc := 1043) a h.1 dL_law_1043 (tgt := 1058) (by decide) (fun hq => ?_) (fun hq => ?_)
        · replace h := h.2.1 hq
          clear hq
          refine a_goto (pc := 1058) a dL_law_1058 (tgt := 1560) (by decide) ?_
          refine a_iinc (pc := 1560) a (ls1 := [(4, vI (x1 + 6)), (6, vI x64), (5, vI x62), (0, Value.ref bb), (1, Value.ref (ad 0)), (2, Value.ref (ad 161)), (3, Value.ref (ad 176))]) 6 dL_law_1560 rfl (by decide) rfl ?_
          refine a_goto (pc := 1563) a dL_law_1563 (tgt := 23) (by decide) ?_
          refine a_sub (ls1 := [(0, Value.ref bb), (1, Value.ref (ad 0)), (2, Value.ref (ad 161)), (3, Value.ref (ad 176)), (4, vI (x1 + 6))]) [3, 4, 5, 6, 0] rfl ?_
          refine a_wid (cc9 + 6) (ss9 + 36) (by omega) (by omega) ?_
          exact hag23 (x1 + 6) s65 _ _ h ⟨by have := hbud.1; omega, by have := hbud.2.1; omega, by have := hbud.2.2; omega⟩
        · replace h := h.2.2 hq
          clear hq
          refine a_aload_n (pc := 1046) a 5 dL_law_1046 rfl rfl ?_
          refine a_iconst (pc := 1047) a dL_law_1047 ?_
          refine a_lald (pc := 1048) a w1 (by decide) (by decide) dL_law_1048 ?_
          refine a_iload (pc := 1049) a 0 dL_law_1049 rfl ?_
          refine a_i2l (pc := 1051) a h.1 dL_law_1051 ?_
          replace h := h.2
          refine a_lcmp0 (pc := 1052) a h.1 dL_law_1052 ?_
          replace h := h.2
          refine a_if_eq (pc := 1053) a ⟨by decide, by decide⟩ dL_law_1053 (tgt := 1058) (by decide) (fun _ => ?_) (fun hq => absurd (by decide) hq)
          refine a_goto (pc := 1058) a dL_law_1058 (tgt := 1560) (by decide) ?_
          refine a_iinc (pc := 1560) a (ls1 := [(4, vI (x1 + 6)), (6, vI x64), (5, vI x62), (0, Value.ref bb), (1, Value.ref (ad 0)), (2, Value.ref (ad 161)), (3, Value.ref (ad 176))]) 6 dL_law_1560 rfl (by decide) rfl ?_
          refine a_goto (pc := 1563) a dL_law_1563 (tgt := 23) (by decide) ?_
          refine a_sub (ls1 := [(0, Value.ref bb), (1, Value.ref (ad 0)), (2, Value.ref (ad 161)), (3, Value.ref (ad 176)), (4, vI (x1 + 6))]) [3, 4, 5, 6, 0] rfl ?_
          refine a_wid (cc9 + 6) (ss9 + 36) (by omega) (by omega) ?_
          exact hag23 (x1 + 6) s65 _ _ h ⟨by have := hbud.1; omega, by have := hbud.2.1; omega, by have := hbud.2.2; omega⟩
      · replace h := h.2.2.2 hq
        clear hq
        refine a_iconst (pc := 1039) a dL_law_1039 ?_
        exact h.elim
    · replace h := h.2.2.2.2.2.2.2.2.2.2.2.2.2.2.1 hq
      refine a_tsIn (pc := 40) a 13 hq ⟨by decide, by decide⟩ dL_law_40 (by decide) (by decide) rfl (tgt := 1061) (by decide) ?_
      clear hq
      refine a_aload_n (pc := 1061) a 1 dL_law_1061 rfl rfl ?_
      refine a_aload_n (pc := 1062) a 0 dL_law_1062 rfl rfl ?_
      refine a_iload (pc := 1063) a 4 dL_law_1063 rfl ?_
      refine a_iconst (pc := 1065) a dL_law_1065 ?_
      refine a_iadd (pc := 1066) a dL_law_1066 ?_
      refine a_sldx (pc := 1067) a hX hxi hbl hbA hL h.1 dL_law_1067 ?_
      replace h := h.2
      refine a_aload_n (pc := 1068) a 3 dL_law_1068 rfl rfl ?_
      refine a_cwi (pc := 1069) a (As := [Value.ref (ad 0), vI (xi (x1 + 1)), Value.ref (ad 176)]) (rest := []) (fun sz => c_L_box hinj hl0  h sz) (vx_cwSW 3 hts (gl_S (GL_29 _ (by decide +kernel)) (GL_29 _ (by decide +kernel)) (GL_5 _ (by decide +kernel)) (GL_29 _ (by decide +kernel))) rfl rfl rfl (by decide +kernel) ⟨Nat.le_of_ble_eq_true rfl, Nat.le_of_ble_eq_true rfl⟩) rfl rfl (Nat.le_of_ble_eq_true rfl) ⟨by show cc9 + 1 ≤ 601024; have := hbud.2.1; have := hbud.1; omega, by show ss9 + 6 ≤ 7293034; have := hbud.2.2; have := hbud.1; omega⟩ dL_law_1069 ?_
      clear h
      intro x67 s68 h
      refine a_istore (pc := 1072) a (ls1 := [(5, vI x67), (0, Value.ref bb), (1, Value.ref (ad 0)), (2, Value.ref (ad 161)), (3, Value.ref (ad 176)), (4, vI x1)]) dL_law_1072 (by decide) rfl ?_
      refine a_aload_n (pc := 1074) a 3 dL_law_1074 rfl rfl ?_
      refine a_aload_n (pc := 1075) a 1 dL_law_1075 rfl rfl ?_
      refine a_iload (pc := 1076) a 5 dL_law_1076 rfl ?_
      refine a_iconst (pc := 1078) a dL_law_1078 ?_
      refine a_iadd (pc := 1079) a dL_law_1079 ?_
      refine a_sldx (pc := 1080) a hX hxi hbl hbA hL h.1 dL_law_1080 ?_
      replace h := h.2
      refine a_cvi (pc := 1081) a (As := [vI (xi (x1 + 1))]) (rest := []) w2 vc7 (fun sz => c_X7_box hinj hl0  h sz) (cwV 1 hts (gl_V (GL_30 _ (by decide +kernel)) (GL_30 _ (by decide +kernel)) (GL_30 _ (by decide +kernel)) (GL_1 _ (by decide +kernel)) (GL_30 _ (by decide +kernel))) rfl rfl rfl (by decide +kernel) ⟨Nat.le_of_ble_eq_true rfl, Nat.le_of_ble_eq_true rfl⟩) rfl rfl (Nat.le_of_ble_eq_true rfl) ⟨by show cc9 + 1 + 0 ≤ 601024; have := hbud.2.1; have := hbud.1; omega, by show ss9 + 6 + 0 ≤ 7293034; have := hbud.2.2; have := hbud.1; omega⟩ dL_law_1081 ?_
      clear h
      intro x69 s70 h
      refine a_istore (pc := 1084) a (ls1 := [(6, vI x69), (5, vI x67), (0, Value.ref bb), (1, Value.ref (ad 0)), (2, Value.ref (ad 161)), (3, Value.ref (ad 176)), (4, vI x1)]) dL_law_1084 (by decide) rfl ?_
      refine a_aload_n (pc := 1086) a 4 dL_law_1086 rfl rfl ?_
      refine a_cvi (pc := 1087) a (As := []) (rest := []) w2 vc7 (fun sz => c_X7_thrown hinj hl0  h sz) (cwV 0 hts (gl_V (GL_9 _ (by decide +kernel)) (GL_9 _ (by decide +kernel)) (GL_9 _ (by decide +kernel)) (GL_1 _ (by decide +kernel)) (GL_9 _ (by decide +kernel))) rfl rfl rfl (by decide +kernel) ⟨Nat.le_of_ble_eq_true rfl, Nat.le_of_ble_eq_true rfl⟩) rfl rfl (Nat.le_of_ble_eq_true rfl) ⟨by show cc9 + 1 + 0 + 0 ≤ 601024; have := hbud.2.1; have := hbud.1; omega, by show ss9 + 6 + 0 + 0 ≤ 7293034; have := hbud.2.2; have := hbud.1; omega⟩ dL_law_1087 ?_
      rintro x71 s9 ⟨hs9, h9⟩
      subst s9
      replace h := h9
      clear h9
      refine a_iload (pc := 1090) a 1 dL_law_1090 rfl ?_
      refine a_icmp_eq (pc := 1092) a h.1 h.2.1 dL_law_1092 (tgt := 1097) (by decide) (fun hq => ?_) (fun hq => ?_)
      · replace h := h.2.2.1 hq
        clear hq
        refine a_iload (pc := 1097) a 1 dL_law_1097 rfl ?_
        refine a_if_ne (pc := 1099) a h.1 dL_law_1099 (tgt := 1114) (by decide) (fun hq => ?_) (fun hq => ?_)
        · replace h := h.2.1 hq
          clear hq
          refine a_goto (pc := 1114) a dL_law_1114 (tgt := 1560) (by decide) ?_
          refine a_iinc (pc := 1560) a (ls1 := [(4, vI (x1 + 6)), (6, vI x69), (5, vI x67), (0, Value.ref bb), (1, Value.ref (ad 0)), (2, Value.ref (ad 161)), (3, Value.ref (ad 176))]) 6 dL_law_1560 rfl (by decide) rfl ?_
          refine a_goto (pc := 1563) a dL_law_1563 (tgt := 23) (by decide) ?_
          refine a_sub (ls1 := [(0, Value.ref bb), (1, Value.ref (ad 0)), (2, Value.ref (ad 161)), (3, Value.ref (ad 176)), (4, vI (x1 + 6))]) [3, 4, 5, 6, 0] rfl ?_
          refine a_wid (cc9 + 6) (ss9 + 36) (by omega) (by omega) ?_
          exact hag23 (x1 + 6) s70 _ _ h ⟨by have := hbud.1; omega, by have := hbud.2.1; omega, by have := hbud.2.2; omega⟩
        · replace h := h.2.2 hq
          clear hq
          refine a_aload_n (pc := 1102) a 5 dL_law_1102 rfl rfl ?_
          refine a_iconst (pc := 1103) a dL_law_1103 ?_
          refine a_lald (pc := 1104) a w1 (by decide) (by decide) dL_law_1104 ?_
          refine a_iload (pc := 1105) a 0 dL_law_1105 rfl ?_
          refine a_i2l (pc := 1107) a h.1 dL_law_1107 ?_
          replace h := h.2
          refine a_lcmp0 (pc := 1108) a h.1 dL_law_1108 ?_
          replace h := h.2
          refine a_if_eq (pc := 1109) a ⟨by decide, by decide⟩ dL_law_1109 (tgt := 1114) (by decide) (fun _ => ?_) (fun hq => absurd (by decide) hq)
          refine a_goto (pc := 1114) a dL_law_1114 (tgt := 1560) (by decide) ?_
          refine a_iinc (pc := 1560) a (ls1 := [(4, vI (x1 + 6)), (6, vI x69), (5, vI x67), (0, Value.ref bb), (1, Value.ref (ad 0)), (2, Value.ref (ad 161)), (3, Value.ref (ad 176))]) 6 dL_law_1560 rfl (by decide) rfl ?_
          refine a_goto (pc := 1563) a dL_law_1563 (tgt := 23) (by decide) ?_
          refine a_sub (ls1 := [(0, Value.ref bb), (1, Value.ref (ad 0)), (2, Value.ref (ad 161)), (3, Value.ref (ad 176)), (4, vI (x1 + 6))]) [3, 4, 5, 6, 0] rfl ?_
          refine a_wid (cc9 + 6) (ss9 + 36) (by omega) (by omega) ?_
          exact hag23 (x1 + 6) s70 _ _ h ⟨by have := hbud.1; omega, by have := hbud.2.1; omega, by have := hbud.2.2; omega⟩
      · replace h := h.2.2.2 hq
        clear hq
        refine a_iconst (pc := 1095) a dL_law_1095 ?_
        exact h.elim
    · replace h := h.2.2.2.2.2.2.2.2.2.2.2.2.2.2.2.1 hq
      refine a_tsIn (pc := 40) a 14 hq ⟨by decide, by decide⟩ dL_law_40 (by decide) (by decide) rfl (tgt := 1117) (by decide) ?_
      clear hq
      refine a_aload_n (pc := 1117) a 1 dL_law_1117 rfl rfl ?_
      refine a_aload_n (pc := 1118) a 0 dL_law_1118 rfl rfl ?_
      refine a_iload (pc := 1119) a 4 dL_law_1119 rfl ?_
      refine a_iconst (pc := 1121) a dL_law_1121 ?_
      refine a_iadd (pc := 1122) a dL_law_1122 ?_
      refine a_sldx (pc := 1123) a hX hxi hbl hbA hL h.1 dL_law_1123 ?_
      replace h := h.2
      refine a_aload_n (pc := 1124) a 3 dL_law_1124 rfl rfl ?_
      refine a_cwi (pc := 1125) a (As := [Value.ref (ad 0), vI (xi (x1 + 1)), Value.ref (ad 176)]) (rest := []) (fun sz => c_L_rounds hinj hl0  h sz) (vx_cwSW 3 hts (gl_S (GL_30 _ (by decide +kernel)) (GL_30 _ (by decide +kernel)) (GL_5 _ (by decide +kernel)) (GL_30 _ (by decide +kernel))) rfl rfl rfl (by decide +kernel) ⟨Nat.le_of_ble_eq_true rfl, Nat.le_of_ble_eq_true rfl⟩) rfl rfl (Nat.le_of_ble_eq_true rfl) ⟨by show cc9 + 1 ≤ 601024; have := hbud.2.1; have := hbud.1; omega, by show ss9 + 6 ≤ 7293034; have := hbud.2.2; have := hbud.1; omega⟩ dL_law_1125 ?_
      clear h
      intro x72 s73 h
      refine a_istore (pc := 1128) a (ls1 := [(5, vI x72), (0, Value.ref bb), (1, Value.ref (ad 0)), (2, Value.ref (ad 161)), (3, Value.ref (ad 176)), (4, vI x1)]) dL_law_1128 (by decide) rfl ?_
      refine a_aload_n (pc := 1130) a 3 dL_law_1130 rfl rfl ?_
      refine a_aload_n (pc := 1131) a 1 dL_law_1131 rfl rfl ?_
      refine a_iload (pc := 1132) a 5 dL_law_1132 rfl ?_
      refine a_iconst (pc := 1134) a dL_law_1134 ?_
      refine a_iadd (pc := 1135) a dL_law_1135 ?_
      refine a_sldx (pc := 1136) a hX hxi hbl hbA hL h.1 dL_law_1136 ?_
      replace h := h.2
      refine a_cvi (pc := 1137) a (As := [vI (xi (x1 + 1))]) (rest := []) w2 vc7 (fun sz => c_X7_rounds hinj hl0  h sz) (cwV 1 hts (gl_V (GL_31 _ (by decide +kernel)) (GL_31 _ (by decide +kernel)) (GL_31 _ (by decide +kernel)) (GL_1 _ (by decide +kernel)) (GL_31 _ (by decide +kernel))) rfl rfl rfl (by decide +kernel) ⟨Nat.le_of_ble_eq_true rfl, Nat.le_of_ble_eq_true rfl⟩) rfl rfl (Nat.le_of_ble_eq_true rfl) ⟨by show cc9 + 1 + 0 ≤ 601024; have := hbud.2.1; have := hbud.1; omega, by show ss9 + 6 + 0 ≤ 7293034; have := hbud.2.2; have := hbud.1; omega⟩ dL_law_1137 ?_
      clear h
      intro x74 s75 h
      refine a_istore (pc := 1140) a (ls1 := [(6, vI x74), (5, vI x72), (0, Value.ref bb), (1, Value.ref (ad 0)), (2, Value.ref (ad 161)), (3, Value.ref (ad 176)), (4, vI x1)]) dL_law_1140 (by decide) rfl ?_
      refine a_aload_n (pc := 1142) a 4 dL_law_1142 rfl rfl ?_
      refine a_cvi (pc := 1143) a (As := []) (rest := []) w2 vc7 (fun sz => c_X7_thrown hinj hl0  h sz) (cwV 0 hts (gl_V (GL_9 _ (by decide +kernel)) (GL_9 _ (by decide +kernel)) (GL_9 _ (by decide +kernel)) (GL_1 _ (by decide +kernel)) (GL_9 _ (by decide +kernel))) rfl rfl rfl (by decide +kernel) ⟨Nat.le_of_ble_eq_true rfl, Nat.le_of_ble_eq_true rfl⟩) rfl rfl (Nat.le_of_ble_eq_true rfl) ⟨by show cc9 + 1 + 0 + 0 ≤ 601024; have := hbud.2.1; have := hbud.1; omega, by show ss9 + 6 + 0 + 0 ≤ 7293034; have := hbud.2.2; have := hbud.1; omega⟩ dL_law_1143 ?_
      rintro x76 s9 ⟨hs9, h9⟩
      subst s9
      replace h := h9
      clear h9
      refine a_iload (pc := 1146) a 1 dL_law_1146 rfl ?_
      refine a_icmp_eq (pc := 1148) a h.1 h.2.1 dL_law_1148 (tgt := 1153) (by decide) (fun hq => ?_) (fun hq => ?_)
      · replace h := h.2.2.1 hq
        clear hq
        refine a_iload (pc := 1153) a 1 dL_law_1153 rfl ?_
        refine a_if_ne (pc := 1155) a h.1 dL_law_1155 (tgt := 1170) (by decide) (fun hq => ?_) (fun hq => ?_)
        · replace h := h.2.1 hq
          clear hq
          refine a_goto (pc := 1170) a dL_law_1170 (tgt := 1560) (by decide) ?_
          refine a_iinc (pc := 1560) a (ls1 := [(4, vI (x1 + 6)), (6, vI x74), (5, vI x72), (0, Value.ref bb), (1, Value.ref (ad 0)), (2, Value.ref (ad 161)), (3, Value.ref (ad 176))]) 6 dL_law_1560 rfl (by decide) rfl ?_
          refine a_goto (pc := 1563) a dL_law_1563 (tgt := 23) (by decide) ?_
          refine a_sub (ls1 := [(0, Value.ref bb), (1, Value.ref (ad 0)), (2, Value.ref (ad 161)), (3, Value.ref (ad 176)), (4, vI (x1 + 6))]) [3, 4, 5, 6, 0] rfl ?_
          refine a_wid (cc9 + 6) (ss9 + 36) (by omega) (by omega) ?_
          exact hag23 (x1 + 6) s75 _ _ h ⟨by have := hbud.1; omega, by have := hbud.2.1; omega, by have := hbud.2.2; omega⟩
        · replace h := h.2.2 hq
          clear hq
          refine a_aload_n (pc := 1158) a 5 dL_law_1158 rfl rfl ?_
          refine a_iconst (pc := 1159) a dL_law_1159 ?_
          refine a_lald (pc := 1160) a w1 (by decide) (by decide) dL_law_1160 ?_
          refine a_iload (pc := 1161) a 0 dL_law_1161 rfl ?_
          refine a_i2l (pc := 1163) a h.1 dL_law_1163 ?_
          replace h := h.2
          refine a_lcmp0 (pc := 1164) a h.1 dL_law_1164 ?_
          replace h := h.2
          refine a_if_eq (pc := 1165) a ⟨by decide, by decide⟩ dL_law_1165 (tgt := 1170) (by decide) (fun _ => ?_) (fun hq => absurd (by decide) hq)
          refine a_goto (pc := 1170) a dL_law_1170 (tgt := 1560) (by decide) ?_
          refine a_iinc (pc := 1560) a (ls1 := [(4, vI (x1 + 6)), (6, vI x74), (5, vI x72), (0, Value.ref bb), (1, Value.ref (ad 0)), (2, Value.ref (ad 161)), (3, Value.ref (ad 176))]) 6 dL_law_1560 rfl (by decide) rfl ?_
          refine a_goto (pc := 1563) a dL_law_1563 (tgt := 23) (by decide) ?_
          refine a_sub (ls1 := [(0, Value.ref bb), (1, Value.ref (ad 0)), (2, Value.ref (ad 161)), (3, Value.ref (ad 176)), (4, vI (x1 + 6))]) [3, 4, 5, 6, 0] rfl ?_
          refine a_wid (cc9 + 6) (ss9 + 36) (by omega) (by omega) ?_
          exact hag23 (x1 + 6) s75 _ _ h ⟨by have := hbud.1; omega, by have := hbud.2.1; omega, by have := hbud.2.2; omega⟩
      · replace h := h.2.2.2 hq
        clear hq
        refine a_iconst (pc := 1151) a dL_law_1151 ?_
        exact h.elim
    · replace h := h.2.2.2.2.2.2.2.2.2.2.2.2.2.2.2.2.1 hq
      refine a_tsIn (pc := 40) a 15 hq ⟨by decide, by decide⟩ dL_law_40 (by decide) (by decide) rfl (tgt := 1173) (by decide) ?_
      clear hq
      refine a_aload_n (pc := 1173) a 1 dL_law_1173 rfl rfl ?_
      refine a_cvi (pc := 1174) a (As := []) (rest := []) w3 vc6 (fun sz => c_X6_firstLines hinj hl0  h sz) (cwV 0 hts (gl_V (GL_31 _ (by decide +kernel)) (GL_31 _ (by decide +kernel)) (GL_31 _ (by decide +kernel)) (GL_1 _ (by decide +kernel)) (GL_31 _ (by decide +kernel))) rfl rfl rfl (by decide +kernel) ⟨Nat.le_of_ble_eq_true rfl, Nat.le_of_ble_eq_true rfl⟩) rfl rfl (Nat.le_of_ble_eq_true rfl) ⟨by show cc9 + 0 ≤ 601024; have := hbud.2.1; have := hbud.1; omega, by show ss9 + 0 ≤ 7293034; have := hbud.2.2; have := hbud.1; omega⟩ dL_law_1174 ?_
      clear h
      intro x77 s78 h
      refine a_aload_n (pc := 1177) a 2 dL_law_1177 rfl rfl ?_
      refine a_cvi (pc := 1178) a (As := []) (rest := [vI x77]) w2 vc7 (fun sz => c_X7_firstLines hinj hl0  h sz) (cwV 0 hts (gl_V (GL_31 _ (by decide +kernel)) (GL_31 _ (by decide +kernel)) (GL_32 _ (by decide +kernel)) (GL_1 _ (by decide +kernel)) (GL_32 _ (by decide +kernel))) rfl rfl rfl (by decide +kernel) ⟨Nat.le_of_ble_eq_true rfl, Nat.le_of_ble_eq_true rfl⟩) rfl rfl (Nat.le_of_ble_eq_true rfl) ⟨by show cc9 + 0 + 0 ≤ 601024; have := hbud.2.1; have := hbud.1; omega, by show ss9 + 0 + 0 ≤ 7293034; have := hbud.2.2; have := hbud.1; omega⟩ dL_law_1178 ?_
      clear h
      intro x79 s80 h
      refine a_icmp_eq (pc := 1181) a h.1 h.2.1 dL_law_1181 (tgt := 1560) (by decide) (fun hq => ?_) (fun hq => ?_)
      · replace h := h.2.2.1 hq
        clear hq
        refine a_iinc (pc := 1560) a (ls1 := [(4, vI (x1 + 6)), (0, Value.ref bb), (1, Value.ref (ad 0)), (2, Value.ref (ad 161)), (3, Value.ref (ad 176))]) 4 dL_law_1560 rfl (by decide) rfl ?_
        refine a_goto (pc := 1563) a dL_law_1563 (tgt := 23) (by decide) ?_
        refine a_sub (ls1 := [(0, Value.ref bb), (1, Value.ref (ad 0)), (2, Value.ref (ad 161)), (3, Value.ref (ad 176)), (4, vI (x1 + 6))]) [1, 2, 3, 4, 0] rfl ?_
        refine a_wid (cc9 + 6) (ss9 + 36) (by omega) (by omega) ?_
        exact hag23 (x1 + 6) s80 _ _ h ⟨by have := hbud.1; omega, by have := hbud.2.1; omega, by have := hbud.2.2; omega⟩
      · replace h := h.2.2.2 hq
        clear hq
        refine a_iconst (pc := 1184) a dL_law_1184 ?_
        exact h.elim
    · replace h := h.2.2.2.2.2.2.2.2.2.2.2.2.2.2.2.2.2.1 hq
      refine a_tsIn (pc := 40) a 16 hq ⟨by decide, by decide⟩ dL_law_40 (by decide) (by decide) rfl (tgt := 1186) (by decide) ?_
      clear hq
      refine a_aload_n (pc := 1186) a 1 dL_law_1186 rfl rfl ?_
      refine a_cvd (pc := 1187) a (As := []) (rest := []) w3 vc6 (fun sz => c_X6_explained hinj hl0  h sz) (cwV 0 hts (gl_V (GL_32 _ (by decide +kernel)) (GL_32 _ (by decide +kernel)) (GL_32 _ (by decide +kernel)) (GL_1 _ (by decide +kernel)) (GL_32 _ (by decide +kernel))) rfl rfl rfl (by decide +kernel) ⟨Nat.le_of_ble_eq_true rfl, Nat.le_of_ble_eq_true rfl⟩) rfl rfl (Nat.le_of_ble_eq_true rfl) ⟨by show cc9 + 0 ≤ 601024; have := hbud.2.1; have := hbud.1; omega, by show ss9 + 0 ≤ 7293034; have := hbud.2.2; have := hbud.1; omega⟩ dL_law_1187 ?_
      clear h
      intro x82 s83 h
      refine a_dstore (pc := 1190) a (ls1 := [(5, Value.double x82), (0, Value.ref bb), (1, Value.ref (ad 0)), (2, Value.ref (ad 161)), (3, Value.ref (ad 176)), (4, vI x1)]) dL_law_1190 (by decide) rfl ?_
      refine a_aload_n (pc := 1192) a 3 dL_law_1192 rfl rfl ?_
      refine a_cvd (pc := 1193) a (As := []) (rest := []) w2 vc7 (fun sz => c_X7_explained hinj hl0  h sz) (cwV 0 hts (gl_V (GL_32 _ (by decide +kernel)) (GL_32 _ (by decide +kernel)) (GL_32 _ (by decide +kernel)) (GL_1 _ (by decide +kernel)) (GL_32 _ (by decide +kernel))) rfl rfl rfl (by decide +kernel) ⟨Nat.le_of_ble_eq_true rfl, Nat.le_of_ble_eq_true rfl⟩) rfl rfl (Nat.le_of_ble_eq_true rfl) ⟨by show cc9 + 0 + 0 ≤ 601024; have := hbud.2.1; have := hbud.1; omega, by show ss9 + 0 + 0 ≤ 7293034; have := hbud.2.2; have := hbud.1; omega⟩ dL_law_1193 ?_
      clear h
      intro x85 s86 h
      refine a_dstore (pc := 1196) a (ls1 := [(7, Value.double x85), (5, Value.double x82), (0, Value.ref bb), (1, Value.ref (ad 0)), (2, Value.ref (ad 161)), (3, Value.ref (ad 176)), (4, vI x1)]) dL_law_1196 (by decide) rfl ?_
      refine a_dload (pc := 1198) a 1 dL_law_1198 rfl ?_
      refine a_dload (pc := 1200) a 0 dL_law_1200 rfl ?_
      refine a_dcmp0 (pc := 1202) a h.1 dL_law_1202 ?_
      replace h := h.2
      refine a_if_eq (pc := 1203) a ⟨by decide, by decide⟩ dL_law_1203 (tgt := 1224) (by decide) (fun _ => ?_) (fun hq => absurd (by decide) hq)
      refine a_goto (pc := 1224) a dL_law_1224 (tgt := 1560) (by decide) ?_
      refine a_iinc (pc := 1560) a (ls1 := [(4, vI (x1 + 6)), (7, Value.double x85), (5, Value.double x82), (0, Value.ref bb), (1, Value.ref (ad 0)), (2, Value.ref (ad 161)), (3, Value.ref (ad 176))]) 6 dL_law_1560 rfl (by decide) rfl ?_
      refine a_goto (pc := 1563) a dL_law_1563 (tgt := 23) (by decide) ?_
      refine a_sub (ls1 := [(0, Value.ref bb), (1, Value.ref (ad 0)), (2, Value.ref (ad 161)), (3, Value.ref (ad 176)), (4, vI (x1 + 6))]) [3, 4, 5, 6, 0] rfl ?_
      refine a_wid (cc9 + 6) (ss9 + 36) (by omega) (by omega) ?_
      exact hag23 (x1 + 6) s86 _ _ h ⟨by have := hbud.1; omega, by have := hbud.2.1; omega, by have := hbud.2.2; omega⟩
    · replace h := h.2.2.2.2.2.2.2.2.2.2.2.2.2.2.2.2.2.2.1 hq
      refine a_tsIn (pc := 40) a 17 hq ⟨by decide, by decide⟩ dL_law_40 (by decide) (by decide) rfl (tgt := 1227) (by decide) ?_
      clear hq
      refine a_aload_n (pc := 1227) a 1 dL_law_1227 rfl rfl ?_
      refine a_aload_n (pc := 1228) a 0 dL_law_1228 rfl rfl ?_
      refine a_iload (pc := 1229) a 4 dL_law_1229 rfl ?_
      refine a_iconst (pc := 1231) a dL_law_1231 ?_
      refine a_iadd (pc := 1232) a dL_law_1232 ?_
      refine a_sldx (pc := 1233) a hX hxi hbl hbA hL h.1 dL_law_1233 ?_
      replace h := h.2
      refine a_aload_n (pc := 1234) a 0 dL_law_1234 rfl rfl ?_
      refine a_iload (pc := 1235) a 4 dL_law_1235 rfl ?_
      refine a_iconst (pc := 1237) a dL_law_1237 ?_
      refine a_iadd (pc := 1238) a dL_law_1238 ?_
      refine a_sldx (pc := 1239) a hX hxi hbl hbA hL h.1 dL_law_1239 ?_
      replace h := h.2
      refine a_aload_n (pc := 1240) a 3 dL_law_1240 rfl rfl ?_
      refine a_cwi (pc := 1241) a (As := [Value.ref (ad 0), vI (xi (x1 + 1)), vI (xi (x1 + 2)), Value.ref (ad 176)]) (rest := []) (fun sz => c_L_linesAt hinj hl0  h sz) (vx_cwSW 4 hts (gl_S (GL_32 _ (by decide +kernel)) (GL_32 _ (by decide +kernel)) (GL_5 _ (by decide +kernel)) (GL_32 _ (by decide +kernel))) rfl rfl rfl (by decide +kernel) ⟨Nat.le_of_ble_eq_true rfl, Nat.le_of_ble_eq_true rfl⟩) rfl rfl (Nat.le_of_ble_eq_true rfl) ⟨by show cc9 + 2 ≤ 601024; have := hbud.2.1; have := hbud.1; omega, by show ss9 + 12 ≤ 7293034; have := hbud.2.2; have := hbud.1; omega⟩ dL_law_1241 ?_
      clear h
      intro x87 s88 h
      refine a_istore (pc := 1244) a (ls1 := [(5, vI x87), (0, Value.ref bb), (1, Value.ref (ad 0)), (2, Value.ref (ad 161)), (3, Value.ref (ad 176)), (4, vI x1)]) dL_law_1244 (by decide) rfl ?_
      refine a_aload_n (pc := 1246) a 3 dL_law_1246 rfl rfl ?_
      refine a_aload_n (pc := 1247) a 1 dL_law_1247 rfl rfl ?_
      refine a_iload (pc := 1248) a 5 dL_law_1248 rfl ?_
      refine a_iconst (pc := 1250) a dL_law_1250 ?_
      refine a_iadd (pc := 1251) a dL_law_1251 ?_
      refine a_sldx (pc := 1252) a hX hxi hbl hbA hL h.1 dL_law_1252 ?_
      replace h := h.2
      refine a_aload_n (pc := 1253) a 1 dL_law_1253 rfl rfl ?_
      refine a_iload (pc := 1254) a 5 dL_law_1254 rfl ?_
      refine a_iconst (pc := 1256) a dL_law_1256 ?_
      refine a_iadd (pc := 1257) a dL_law_1257 ?_
      refine a_sldx (pc := 1258) a hX hxi hbl hbA hL h.1 dL_law_1258 ?_
      replace h := h.2
      refine a_cvi (pc := 1259) a (As := [vI (xi (x1 + 1)), vI (xi (x1 + 2))]) (rest := []) w2 vc7 (fun sz => c_X7_linesAt hinj hl0  h sz) (cwV 2 hts (gl_V (GL_32 _ (by decide +kernel)) (GL_32 _ (by decide +kernel)) (GL_32 _ (by decide +kernel)) (GL_1 _ (by decide +kernel)) (GL_32 _ (by decide +kernel))) rfl rfl rfl (by decide +kernel) ⟨Nat.le_of_ble_eq_true rfl, Nat.le_of_ble_eq_true rfl⟩) rfl rfl (Nat.le_of_ble_eq_true rfl) ⟨by show cc9 + 2 + 0 ≤ 601024; have := hbud.2.1; have := hbud.1; omega, by show ss9 + 12 + 0 ≤ 7293034; have := hbud.2.2; have := hbud.1; omega⟩ dL_law_1259 ?_
      clear h
      intro x89 s90 h
      refine a_istore (pc := 1262) a (ls1 := [(6, vI x89), (5, vI x87), (0, Value.ref bb), (1, Value.ref (ad 0)), (2, Value.ref (ad 161)), (3, Value.ref (ad 176)), (4, vI x1)]) dL_law_1262 (by decide) rfl ?_
      refine a_aload_n (pc := 1264) a 4 dL_law_1264 rfl rfl ?_
      refine a_cvi (pc := 1265) a (As := []) (rest := []) w2 vc7 (fun sz => c_X7_thrown hinj hl0  h sz) (cwV 0 hts (gl_V (GL_9 _ (by decide +kernel)) (GL_9 _ (by decide +kernel)) (GL_9 _ (by decide +kernel)) (GL_1 _ (by decide +kernel)) (GL_9 _ (by decide +kernel))) rfl rfl rfl (by decide +kernel) ⟨Nat.le_of_ble_eq_true rfl, Nat.le_of_ble_eq_true rfl⟩) rfl rfl (Nat.le_of_ble_eq_true rfl) ⟨by show cc9 + 2 + 0 + 0 ≤ 601024; have := hbud.2.1; have := hbud.1; omega, by show ss9 + 12 + 0 + 0 ≤ 7293034; have := hbud.2.2; have := hbud.1; omega⟩ dL_law_1265 ?_
      rintro x91 s9 ⟨hs9, h9⟩
      subst s9
      replace h := h9
      clear h9
      refine a_iload (pc := 1268) a 1 dL_law_1268 rfl ?_
      refine a_icmp_eq (pc := 1270) a h.1 h.2.1 dL_law_1270 (tgt := 1275) (by decide) (fun hq => ?_) (fun hq => ?_)
      · replace h := h.2.2.1 hq
        clear hq
        refine a_iload (pc := 1275) a 1 dL_law_1275 rfl ?_
        refine a_if_ne (pc := 1277) a h.1 dL_law_1277 (tgt := 1292) (by decide) (fun hq => ?_) (fun hq => ?_)
        · replace h := h.2.1 hq
          clear hq
          refine a_goto (pc := 1292) a dL_law_1292 (tgt := 1560) (by decide) ?_
          refine a_iinc (pc := 1560) a (ls1 := [(4, vI (x1 + 6)), (6, vI x89), (5, vI x87), (0, Value.ref bb), (1, Value.ref (ad 0)), (2, Value.ref (ad 161)), (3, Value.ref (ad 176))]) 6 dL_law_1560 rfl (by decide) rfl ?_
          refine a_goto (pc := 1563) a dL_law_1563 (tgt := 23) (by decide) ?_
          refine a_sub (ls1 := [(0, Value.ref bb), (1, Value.ref (ad 0)), (2, Value.ref (ad 161)), (3, Value.ref (ad 176)), (4, vI (x1 + 6))]) [3, 4, 5, 6, 0] rfl ?_
          refine a_wid (cc9 + 6) (ss9 + 36) (by omega) (by omega) ?_
          exact hag23 (x1 + 6) s90 _ _ h ⟨by have := hbud.1; omega, by have := hbud.2.1; omega, by have := hbud.2.2; omega⟩
        · replace h := h.2.2 hq
          clear hq
          refine a_aload_n (pc := 1280) a 5 dL_law_1280 rfl rfl ?_
          refine a_iconst (pc := 1281) a dL_law_1281 ?_
          refine a_lald (pc := 1282) a w1 (by decide) (by decide) dL_law_1282 ?_
          refine a_iload (pc := 1283) a 0 dL_law_1283 rfl ?_
          refine a_i2l (pc := 1285) a h.1 dL_law_1285 ?_
          replace h := h.2
          refine a_lcmp0 (pc := 1286) a h.1 dL_law_1286 ?_
          replace h := h.2
          refine a_if_eq (pc := 1287) a ⟨by decide, by decide⟩ dL_law_1287 (tgt := 1292) (by decide) (fun _ => ?_) (fun hq => absurd (by decide) hq)
          refine a_goto (pc := 1292) a dL_law_1292 (tgt := 1560) (by decide) ?_
          refine a_iinc (pc := 1560) a (ls1 := [(4, vI (x1 + 6)), (6, vI x89), (5, vI x87), (0, Value.ref bb), (1, Value.ref (ad 0)), (2, Value.ref (ad 161)), (3, Value.ref (ad 176))]) 6 dL_law_1560 rfl (by decide) rfl ?_
          refine a_goto (pc := 1563) a dL_law_1563 (tgt := 23) (by decide) ?_
          refine a_sub (ls1 := [(0, Value.ref bb), (1, Value.ref (ad 0)), (2, Value.ref (ad 161)), (3, Value.ref (ad 176)), (4, vI (x1 + 6))]) [3, 4, 5, 6, 0] rfl ?_
          refine a_wid (cc9 + 6) (ss9 + 36) (by omega) (by omega) ?_
          exact hag23 (x1 + 6) s90 _ _ h ⟨by have := hbud.1; omega, by have := hbud.2.1; omega, by have := hbud.2.2; omega⟩
      · replace h := h.2.2.2 hq
        clear hq
        refine a_iconst (pc := 1273) a dL_law_1273 ?_
        exact h.elim
    · replace h := h.2.2.2.2.2.2.2.2.2.2.2.2.2.2.2.2.2.2.2.1 hq
      refine a_tsIn (pc := 40) a 18 hq ⟨by decide, by decide⟩ dL_law_40 (by decide) (by decide) rfl (tgt := 1295) (by decide) ?_
      clear hq
      refine a_aload_n (pc := 1295) a 1 dL_law_1295 rfl rfl ?_
      refine a_cvi (pc := 1296) a (As := []) (rest := []) w3 vc6 (fun sz => c_X6_bestColumns hinj hl0  h sz) (cwV 0 hts (gl_V (GL_32 _ (by decide +kernel)) (GL_32 _ (by decide +kernel)) (GL_32 _ (by decide +kernel)) (GL_1 _ (by decide +kernel)) (GL_33 _ (by decide +kernel))) rfl rfl rfl (by decide +kernel) ⟨Nat.le_of_ble_eq_true rfl, Nat.le_of_ble_eq_true rfl⟩) rfl rfl (Nat.le_of_ble_eq_true rfl) ⟨by show cc9 + 0 ≤ 601024; have := hbud.2.1; have := hbud.1; omega, by show ss9 + 0 ≤ 7293034; have := hbud.2.2; have := hbud.1; omega⟩ dL_law_1296 ?_
      clear h
      intro x92 s93 h
      refine a_aload_n (pc := 1299) a 2 dL_law_1299 rfl rfl ?_
      refine a_cvi (pc := 1300) a (As := []) (rest := [vI x92]) w2 vc7 (fun sz => c_X7_bestColumns hinj hl0  h sz) (cwV 0 hts (gl_V (GL_33 _ (by decide +kernel)) (GL_33 _ (by decide +kernel)) (GL_33 _ (by decide +kernel)) (GL_1 _ (by decide +kernel)) (GL_33 _ (by decide +kernel))) rfl rfl rfl (by decide +kernel) ⟨Nat.le_of_ble_eq_true rfl, Nat.le_of_ble_eq_true rfl⟩) rfl rfl (Nat.le_of_ble_eq_true rfl) ⟨by show cc9 + 0 + 0 ≤ 601024; have := hbud.2.1; have := hbud.1; omega, by show ss9 + 0 + 0 ≤ 7293034; have := hbud.2.2; have := hbud.1; omega⟩ dL_law_1300 ?_
      clear h
      intro x94 s95 h
      refine a_icmp_eq (pc := 1303) a h.1 h.2.1 dL_law_1303 (tgt := 1560) (by decide) (fun hq => ?_) (fun hq => ?_)
      · replace h := h.2.2.1 hq
        clear hq
        refine a_iinc (pc := 1560) a (ls1 := [(4, vI (x1 + 6)), (0, Value.ref bb), (1, Value.ref (ad 0)), (2, Value.ref (ad 161)), (3, Value.ref (ad 176))]) 4 dL_law_1560 rfl (by decide) rfl ?_
        refine a_goto (pc := 1563) a dL_law_1563 (tgt := 23) (by decide) ?_
        refine a_sub (ls1 := [(0, Value.ref bb), (1, Value.ref (ad 0)), (2, Value.ref (ad 161)), (3, Value.ref (ad 176)), (4, vI (x1 + 6))]) [1, 2, 3, 4, 0] rfl ?_
        refine a_wid (cc9 + 6) (ss9 + 36) (by omega) (by omega) ?_
        exact hag23 (x1 + 6) s95 _ _ h ⟨by have := hbud.1; omega, by have := hbud.2.1; omega, by have := hbud.2.2; omega⟩
      · replace h := h.2.2.2 hq
        clear hq
        refine a_iconst (pc := 1306) a dL_law_1306 ?_
        exact h.elim
    · replace h := h.2.2.2.2.2.2.2.2.2.2.2.2.2.2.2.2.2.2.2.2.1 hq
      refine a_tsIn (pc := 40) a 19 hq ⟨by decide, by decide⟩ dL_law_40 (by decide) (by decide) rfl (tgt := 1308) (by decide) ?_
      clear hq
      refine a_aload_n (pc := 1308) a 1 dL_law_1308 rfl rfl ?_
      refine a_aload_n (pc := 1309) a 0 dL_law_1309 rfl rfl ?_
      refine a_iload (pc := 1310) a 4 dL_law_1310 rfl ?_
      refine a_iconst (pc := 1312) a dL_law_1312 ?_
      refine a_iadd (pc := 1313) a dL_law_1313 ?_
      refine a_sldx (pc := 1314) a hX hxi hbl hbA hL h.1 dL_law_1314 ?_
      replace h := h.2
      refine a_aload_n (pc := 1315) a 3 dL_law_1315 rfl rfl ?_
      refine a_cwi (pc := 1316) a (As := [Value.ref (ad 0), vI (xi (x1 + 1)), Value.ref (ad 176)]) (rest := []) (fun sz => c_L_zoomFor hinj hl0  h sz) (vx_cwSW 3 hts (gl_S (GL_33 _ (by decide +kernel)) (GL_33 _ (by decide +kernel)) (GL_5 _ (by decide +kernel)) (GL_33 _ (by decide +kernel))) rfl rfl rfl (by decide +kernel) ⟨Nat.le_of_ble_eq_true rfl, Nat.le_of_ble_eq_true rfl⟩) rfl rfl (Nat.le_of_ble_eq_true rfl) ⟨by show cc9 + 1 ≤ 601024; have := hbud.2.1; have := hbud.1; omega, by show ss9 + 6 ≤ 7293034; have := hbud.2.2; have := hbud.1; omega⟩ dL_law_1316 ?_
      clear h
      intro x96 s97 h
      refine a_istore (pc := 1319) a (ls1 := [(5, vI x96), (0, Value.ref bb), (1, Value.ref (ad 0)), (2, Value.ref (ad 161)), (3, Value.ref (ad 176)), (4, vI x1)]) dL_law_1319 (by decide) rfl ?_
      refine a_aload_n (pc := 1321) a 3 dL_law_1321 rfl rfl ?_
      refine a_aload_n (pc := 1322) a 1 dL_law_1322 rfl rfl ?_
      refine a_iload (pc := 1323) a 5 dL_law_1323 rfl ?_
      refine a_iconst (pc := 1325) a dL_law_1325 ?_
      refine a_iadd (pc := 1326) a dL_law_1326 ?_
      refine a_sldx (pc := 1327) a hX hxi hbl hbA hL h.1 dL_law_1327 ?_
      replace h := h.2
      refine a_cvi (pc := 1328) a (As := [vI (xi (x1 + 1))]) (rest := []) w2 vc7 (fun sz => c_X7_zoomFor hinj hl0  h sz) (cwV 1 hts (gl_V (GL_33 _ (by decide +kernel)) (GL_33 _ (by decide +kernel)) (GL_33 _ (by decide +kernel)) (GL_1 _ (by decide +kernel)) (GL_33 _ (by decide +kernel))) rfl rfl rfl (by decide +kernel) ⟨Nat.le_of_ble_eq_true rfl, Nat.le_of_ble_eq_true rfl⟩) rfl rfl (Nat.le_of_ble_eq_true rfl) ⟨by show cc9 + 1 + 0 ≤ 601024; have := hbud.2.1; have := hbud.1; omega, by show ss9 + 6 + 0 ≤ 7293034; have := hbud.2.2; have := hbud.1; omega⟩ dL_law_1328 ?_
      clear h
      intro x98 s99 h
      refine a_istore (pc := 1331) a (ls1 := [(6, vI x98), (5, vI x96), (0, Value.ref bb), (1, Value.ref (ad 0)), (2, Value.ref (ad 161)), (3, Value.ref (ad 176)), (4, vI x1)]) dL_law_1331 (by decide) rfl ?_
      refine a_aload_n (pc := 1333) a 4 dL_law_1333 rfl rfl ?_
      refine a_cvi (pc := 1334) a (As := []) (rest := []) w2 vc7 (fun sz => c_X7_thrown hinj hl0  h sz) (cwV 0 hts (gl_V (GL_9 _ (by decide +kernel)) (GL_9 _ (by decide +kernel)) (GL_9 _ (by decide +kernel)) (GL_1 _ (by decide +kernel)) (GL_9 _ (by decide +kernel))) rfl rfl rfl (by decide +kernel) ⟨Nat.le_of_ble_eq_true rfl, Nat.le_of_ble_eq_true rfl⟩) rfl rfl (Nat.le_of_ble_eq_true rfl) ⟨by show cc9 + 1 + 0 + 0 ≤ 601024; have := hbud.2.1; have := hbud.1; omega, by show ss9 + 6 + 0 + 0 ≤ 7293034; have := hbud.2.2; have := hbud.1; omega⟩ dL_law_1334 ?_
      rintro x100 s9 ⟨hs9, h9⟩
      subst s9
      replace h := h9
      clear h9
      refine a_iload (pc := 1337) a 1 dL_law_1337 rfl ?_
      refine a_icmp_eq (pc := 1339) a h.1 h.2.1 dL_law_1339 (tgt := 1344) (by decide) (fun hq => ?_) (fun hq => ?_)
      · replace h := h.2.2.1 hq
        clear hq
        refine a_iload (pc := 1344) a 1 dL_law_1344 rfl ?_
        refine a_if_ne (pc := 1346) a h.1 dL_law_1346 (tgt := 1361) (by decide) (fun hq => ?_) (fun hq => ?_)
        · replace h := h.2.1 hq
          clear hq
          refine a_goto (pc := 1361) a dL_law_1361 (tgt := 1560) (by decide) ?_
          refine a_iinc (pc := 1560) a (ls1 := [(4, vI (x1 + 6)), (6, vI x98), (5, vI x96), (0, Value.ref bb), (1, Value.ref (ad 0)), (2, Value.ref (ad 161)), (3, Value.ref (ad 176))]) 6 dL_law_1560 rfl (by decide) rfl ?_
          refine a_goto (pc := 1563) a dL_law_1563 (tgt := 23) (by decide) ?_
          refine a_sub (ls1 := [(0, Value.ref bb), (1, Value.ref (ad 0)), (2, Value.ref (ad 161)), (3, Value.ref (ad 176)), (4, vI (x1 + 6))]) [3, 4, 5, 6, 0] rfl ?_
          refine a_wid (cc9 + 6) (ss9 + 36) (by omega) (by omega) ?_
          exact hag23 (x1 + 6) s99 _ _ h ⟨by have := hbud.1; omega, by have := hbud.2.1; omega, by have := hbud.2.2; omega⟩
        · replace h := h.2.2 hq
          clear hq
          refine a_aload_n (pc := 1349) a 5 dL_law_1349 rfl rfl ?_
          refine a_iconst (pc := 1350) a dL_law_1350 ?_
          refine a_lald (pc := 1351) a w1 (by decide) (by decide) dL_law_1351 ?_
          refine a_iload (pc := 1352) a 0 dL_law_1352 rfl ?_
          refine a_i2l (pc := 1354) a h.1 dL_law_1354 ?_
          replace h := h.2
          refine a_lcmp0 (pc := 1355) a h.1 dL_law_1355 ?_
          replace h := h.2
          refine a_if_eq (pc := 1356) a ⟨by decide, by decide⟩ dL_law_1356 (tgt := 1361) (by decide) (fun _ => ?_) (fun hq => absurd (by decide) hq)
          refine a_goto (pc := 1361) a dL_law_1361 (tgt := 1560) (by decide) ?_
          refine a_iinc (pc := 1560) a (ls1 := [(4, vI (x1 + 6)), (6, vI x98), (5, vI x96), (0, Value.ref bb), (1, Value.ref (ad 0)), (2, Value.ref (ad 161)), (3, Value.ref (ad 176))]) 6 dL_law_1560 rfl (by decide) rfl ?_
          refine a_goto (pc := 1563) a dL_law_1563 (tgt := 23) (by decide) ?_
          refine a_sub (ls1 := [(0, Value.ref bb), (1, Value.ref (ad 0)), (2, Value.ref (ad 161)), (3, Value.ref (ad 176)), (4, vI (x1 + 6))]) [3, 4, 5, 6, 0] rfl ?_
          refine a_wid (cc9 + 6) (ss9 + 36) (by omega) (by omega) ?_
          exact hag23 (x1 + 6) s99 _ _ h ⟨by have := hbud.1; omega, by have := hbud.2.1; omega, by have := hbud.2.2; omega⟩
      · replace h := h.2.2.2 hq
        clear hq
        refine a_iconst (pc := 1342) a dL_law_1342 ?_
        exact h.elim
    · replace h := h.2.2.2.2.2.2.2.2.2.2.2.2.2.2.2.2.2.2.2.2.2.1 hq
      refine a_tsIn (pc := 40) a 20 hq ⟨by decide, by decide⟩ dL_law_40 (by decide) (by decide) rfl (tgt := 1364) (by decide) ?_
      clear hq
      refine a_aload_n (pc := 1364) a 1 dL_law_1364 rfl rfl ?_
      refine a_aload_n (pc := 1365) a 0 dL_law_1365 rfl rfl ?_
      refine a_iload (pc := 1366) a 4 dL_law_1366 rfl ?_
      refine a_iconst (pc := 1368) a dL_law_1368 ?_
      refine a_iadd (pc := 1369) a dL_law_1369 ?_
      refine a_sldx (pc := 1370) a hX hxi hbl hbA hL h.1 dL_law_1370 ?_
      replace h := h.2
      refine a_aload_n (pc := 1371) a 3 dL_law_1371 rfl rfl ?_
      refine a_cwi (pc := 1372) a (As := [Value.ref (ad 0), vI (xi (x1 + 1)), Value.ref (ad 176)]) (rest := []) (fun sz => c_L_linesSaved hinj hl0  h sz) (vx_cwSW 3 hts (gl_S (GL_33 _ (by decide +kernel)) (GL_33 _ (by decide +kernel)) (GL_5 _ (by decide +kernel)) (GL_33 _ (by decide +kernel))) rfl rfl rfl (by decide +kernel) ⟨Nat.le_of_ble_eq_true rfl, Nat.le_of_ble_eq_true rfl⟩) rfl rfl (Nat.le_of_ble_eq_true rfl) ⟨by show cc9 + 1 ≤ 601024; have := hbud.2.1; have := hbud.1; omega, by show ss9 + 6 ≤ 7293034; have := hbud.2.2; have := hbud.1; omega⟩ dL_law_1372 ?_
      clear h
      intro x101 s102 h
      refine a_istore (pc := 1375) a (ls1 := [(5, vI x101), (0, Value.ref bb), (1, Value.ref (ad 0)), (2, Value.ref (ad 161)), (3, Value.ref (ad 176)), (4, vI x1)]) dL_law_1375 (by decide) rfl ?_
      refine a_aload_n (pc := 1377) a 3 dL_law_1377 rfl rfl ?_
      refine a_aload_n (pc := 1378) a 1 dL_law_1378 rfl rfl ?_
      refine a_iload (pc := 1379) a 5 dL_law_1379 rfl ?_
      refine a_iconst (pc := 1381) a dL_law_1381 ?_
      refine a_iadd (pc := 1382) a dL_law_1382 ?_
      refine a_sldx (pc := 1383) a hX hxi hbl hbA hL h.1 dL_law_1383 ?_
      replace h := h.2
      refine a_cvi (pc := 1384) a (As := [vI (xi (x1 + 1))]) (rest := []) w2 vc7 (fun sz => c_X7_linesSaved hinj hl0  h sz) (cwV 1 hts (gl_V (GL_34 _ (by decide +kernel)) (GL_34 _ (by decide +kernel)) (GL_34 _ (by decide +kernel)) (GL_1 _ (by decide +kernel)) (GL_34 _ (by decide +kernel))) rfl rfl rfl (by decide +kernel) ⟨Nat.le_of_ble_eq_true rfl, Nat.le_of_ble_eq_true rfl⟩) rfl rfl (Nat.le_of_ble_eq_true rfl) ⟨by show cc9 + 1 + 0 ≤ 601024; have := hbud.2.1; have := hbud.1; omega, by show ss9 + 6 + 0 ≤ 7293034; have := hbud.2.2; have := hbud.1; omega⟩ dL_law_1384 ?_
      clear h
      intro x103 s104 h
      refine a_istore (pc := 1387) a (ls1 := [(6, vI x103), (5, vI x101), (0, Value.ref bb), (1, Value.ref (ad 0)), (2, Value.ref (ad 161)), (3, Value.ref (ad 176)), (4, vI x1)]) dL_law_1387 (by decide) rfl ?_
      refine a_aload_n (pc := 1389) a 4 dL_law_1389 rfl rfl ?_
      refine a_cvi (pc := 1390) a (As := []) (rest := []) w2 vc7 (fun sz => c_X7_thrown hinj hl0  h sz) (cwV 0 hts (gl_V (GL_9 _ (by decide +kernel)) (GL_9 _ (by decide +kernel)) (GL_9 _ (by decide +kernel)) (GL_1 _ (by decide +kernel)) (GL_9 _ (by decide +kernel))) rfl rfl rfl (by decide +kernel) ⟨Nat.le_of_ble_eq_true rfl, Nat.le_of_ble_eq_true rfl⟩) rfl rfl (Nat.le_of_ble_eq_true rfl) ⟨by show cc9 + 1 + 0 + 0 ≤ 601024; have := hbud.2.1; have := hbud.1; omega, by show ss9 + 6 + 0 + 0 ≤ 7293034; have := hbud.2.2; have := hbud.1; omega⟩ dL_law_1390 ?_
      rintro x105 s9 ⟨hs9, h9⟩
      subst s9
      replace h := h9
      clear h9
      refine a_iload (pc := 1393) a 1 dL_law_1393 rfl ?_
      refine a_icmp_eq (pc := 1395) a h.1 h.2.1 dL_law_1395 (tgt := 1400) (by decide) (fun hq => ?_) (fun hq => ?_)
      · replace h := h.2.2.1 hq
        clear hq
        refine a_iload (pc := 1400) a 1 dL_law_1400 rfl ?_
        refine a_if_ne (pc := 1402) a h.1 dL_law_1402 (tgt := 1417) (by decide) (fun hq => ?_) (fun hq => ?_)
        · replace h := h.2.1 hq
          clear hq
          refine a_goto (pc := 1417) a dL_law_1417 (tgt := 1560) (by decide) ?_
          refine a_iinc (pc := 1560) a (ls1 := [(4, vI (x1 + 6)), (6, vI x103), (5, vI x101), (0, Value.ref bb), (1, Value.ref (ad 0)), (2, Value.ref (ad 161)), (3, Value.ref (ad 176))]) 6 dL_law_1560 rfl (by decide) rfl ?_
          refine a_goto (pc := 1563) a dL_law_1563 (tgt := 23) (by decide) ?_
          refine a_sub (ls1 := [(0, Value.ref bb), (1, Value.ref (ad 0)), (2, Value.ref (ad 161)), (3, Value.ref (ad 176)), (4, vI (x1 + 6))]) [3, 4, 5, 6, 0] rfl ?_
          refine a_wid (cc9 + 6) (ss9 + 36) (by omega) (by omega) ?_
          exact hag23 (x1 + 6) s104 _ _ h ⟨by have := hbud.1; omega, by have := hbud.2.1; omega, by have := hbud.2.2; omega⟩
        · replace h := h.2.2 hq
          clear hq
          refine a_aload_n (pc := 1405) a 5 dL_law_1405 rfl rfl ?_
          refine a_iconst (pc := 1406) a dL_law_1406 ?_
          refine a_lald (pc := 1407) a w1 (by decide) (by decide) dL_law_1407 ?_
          refine a_iload (pc := 1408) a 0 dL_law_1408 rfl ?_
          refine a_i2l (pc := 1410) a h.1 dL_law_1410 ?_
          replace h := h.2
          refine a_lcmp0 (pc := 1411) a h.1 dL_law_1411 ?_
          replace h := h.2
          refine a_if_eq (pc := 1412) a ⟨by decide, by decide⟩ dL_law_1412 (tgt := 1417) (by decide) (fun _ => ?_) (fun hq => absurd (by decide) hq)
          refine a_goto (pc := 1417) a dL_law_1417 (tgt := 1560) (by decide) ?_
          refine a_iinc (pc := 1560) a (ls1 := [(4, vI (x1 + 6)), (6, vI x103), (5, vI x101), (0, Value.ref bb), (1, Value.ref (ad 0)), (2, Value.ref (ad 161)), (3, Value.ref (ad 176))]) 6 dL_law_1560 rfl (by decide) rfl ?_
          refine a_goto (pc := 1563) a dL_law_1563 (tgt := 23) (by decide) ?_
          refine a_sub (ls1 := [(0, Value.ref bb), (1, Value.ref (ad 0)), (2, Value.ref (ad 161)), (3, Value.ref (ad 176)), (4, vI (x1 + 6))]) [3, 4, 5, 6, 0] rfl ?_
          refine a_wid (cc9 + 6) (ss9 + 36) (by omega) (by omega) ?_
          exact hag23 (x1 + 6) s104 _ _ h ⟨by have := hbud.1; omega, by have := hbud.2.1; omega, by have := hbud.2.2; omega⟩
      · replace h := h.2.2.2 hq
        clear hq
        refine a_iconst (pc := 1398) a dL_law_1398 ?_
        exact h.elim
    · replace h := h.2.2.2.2.2.2.2.2.2.2.2.2.2.2.2.2.2.2.2.2.2.2.1 hq
      refine a_tsIn (pc := 40) a 21 hq ⟨by decide, by decide⟩ dL_law_40 (by decide) (by decide) rfl (tgt := 1420) (by decide) ?_
      clear hq
      refine a_aload_n (pc := 1420) a 1 dL_law_1420 rfl rfl ?_
      refine a_aload_n (pc := 1421) a 0 dL_law_1421 rfl rfl ?_
      refine a_iload (pc := 1422) a 4 dL_law_1422 rfl ?_
      refine a_iconst (pc := 1424) a dL_law_1424 ?_
      refine a_iadd (pc := 1425) a dL_law_1425 ?_
      refine a_sldx (pc := 1426) a hX hxi hbl hbA hL h.1 dL_law_1426 ?_
      replace h := h.2
      refine a_aload_n (pc := 1427) a 3 dL_law_1427 rfl rfl ?_
      refine a_cwi (pc := 1428) a (As := [Value.ref (ad 0), vI (xi (x1 + 1)), Value.ref (ad 176)]) (rest := []) (fun sz => c_L_append hinj hl0  h sz) (vx_cwSW 3 hts (gl_S (GL_34 _ (by decide +kernel)) (GL_34 _ (by decide +kernel)) (GL_5 _ (by decide +kernel)) (GL_34 _ (by decide +kernel))) rfl rfl rfl (by decide +kernel) ⟨Nat.le_of_ble_eq_true rfl, Nat.le_of_ble_eq_true rfl⟩) rfl rfl (Nat.le_of_ble_eq_true rfl) ⟨by show cc9 + 2 ≤ 601024; have := hbud.2.1; have := hbud.1; omega, by show ss9 + 12 ≤ 7293034; have := hbud.2.2; have := hbud.1; omega⟩ dL_law_1428 ?_
      clear h
      intro x106 s107 h
      refine a_istore (pc := 1431) a (ls1 := [(5, vI x106), (0, Value.ref bb), (1, Value.ref (ad 0)), (2, Value.ref (ad 161)), (3, Value.ref (ad 176)), (4, vI x1)]) dL_law_1431 (by decide) rfl ?_
      refine a_aload_n (pc := 1433) a 3 dL_law_1433 rfl rfl ?_
      refine a_aload_n (pc := 1434) a 1 dL_law_1434 rfl rfl ?_
      refine a_iload (pc := 1435) a 5 dL_law_1435 rfl ?_
      refine a_iconst (pc := 1437) a dL_law_1437 ?_
      refine a_iadd (pc := 1438) a dL_law_1438 ?_
      refine a_sldx (pc := 1439) a hX hxi hbl hbA hL h.1 dL_law_1439 ?_
      replace h := h.2
      refine a_cvi (pc := 1440) a (As := [vI (xi (x1 + 1))]) (rest := []) w2 vc7 (fun sz => c_X7_append hinj hl0  h sz) (cwV 1 hts (gl_V (GL_34 _ (by decide +kernel)) (GL_34 _ (by decide +kernel)) (GL_34 _ (by decide +kernel)) (GL_1 _ (by decide +kernel)) (GL_34 _ (by decide +kernel))) rfl rfl rfl (by decide +kernel) ⟨Nat.le_of_ble_eq_true rfl, Nat.le_of_ble_eq_true rfl⟩) rfl rfl (Nat.le_of_ble_eq_true rfl) ⟨by show cc9 + 2 + 0 ≤ 601024; have := hbud.2.1; have := hbud.1; omega, by show ss9 + 12 + 0 ≤ 7293034; have := hbud.2.2; have := hbud.1; omega⟩ dL_law_1440 ?_
      clear h
      intro x108 s109 h
      refine a_istore (pc := 1443) a (ls1 := [(6, vI x108), (5, vI x106), (0, Value.ref bb), (1, Value.ref (ad 0)), (2, Value.ref (ad 161)), (3, Value.ref (ad 176)), (4, vI x1)]) dL_law_1443 (by decide) rfl ?_
      refine a_aload_n (pc := 1445) a 4 dL_law_1445 rfl rfl ?_
      refine a_cvi (pc := 1446) a (As := []) (rest := []) w2 vc7 (fun sz => c_X7_thrown hinj hl0  h sz) (cwV 0 hts (gl_V (GL_9 _ (by decide +kernel)) (GL_9 _ (by decide +kernel)) (GL_9 _ (by decide +kernel)) (GL_1 _ (by decide +kernel)) (GL_9 _ (by decide +kernel))) rfl rfl rfl (by decide +kernel) ⟨Nat.le_of_ble_eq_true rfl, Nat.le_of_ble_eq_true rfl⟩) rfl rfl (Nat.le_of_ble_eq_true rfl) ⟨by show cc9 + 2 + 0 + 0 ≤ 601024; have := hbud.2.1; have := hbud.1; omega, by show ss9 + 12 + 0 + 0 ≤ 7293034; have := hbud.2.2; have := hbud.1; omega⟩ dL_law_1446 ?_
      rintro x110 s9 ⟨hs9, h9⟩
      subst s9
      replace h := h9
      clear h9
      refine a_iload (pc := 1449) a 1 dL_law_1449 rfl ?_
      refine a_icmp_eq (pc := 1451) a h.1 h.2.1 dL_law_1451 (tgt := 1456) (by decide) (fun hq => ?_) (fun hq => ?_)
      · replace h := h.2.2.1 hq
        clear hq
        refine a_iload (pc := 1456) a 1 dL_law_1456 rfl ?_
        refine a_if_ne (pc := 1458) a h.1 dL_law_1458 (tgt := 1473) (by decide) (fun hq => ?_) (fun hq => ?_)
        · replace h := h.2.1 hq
          clear hq
          refine a_goto (pc := 1473) a dL_law_1473 (tgt := 1560) (by decide) ?_
          refine a_iinc (pc := 1560) a (ls1 := [(4, vI (x1 + 6)), (6, vI x108), (5, vI x106), (0, Value.ref bb), (1, Value.ref (ad 0)), (2, Value.ref (ad 161)), (3, Value.ref (ad 176))]) 6 dL_law_1560 rfl (by decide) rfl ?_
          refine a_goto (pc := 1563) a dL_law_1563 (tgt := 23) (by decide) ?_
          refine a_sub (ls1 := [(0, Value.ref bb), (1, Value.ref (ad 0)), (2, Value.ref (ad 161)), (3, Value.ref (ad 176)), (4, vI (x1 + 6))]) [3, 4, 5, 6, 0] rfl ?_
          refine a_wid (cc9 + 6) (ss9 + 36) (by omega) (by omega) ?_
          exact hag23 (x1 + 6) s109 _ _ h ⟨by have := hbud.1; omega, by have := hbud.2.1; omega, by have := hbud.2.2; omega⟩
        · replace h := h.2.2 hq
          clear hq
          refine a_aload_n (pc := 1461) a 5 dL_law_1461 rfl rfl ?_
          refine a_iconst (pc := 1462) a dL_law_1462 ?_
          refine a_lald (pc := 1463) a w1 (by decide) (by decide) dL_law_1463 ?_
          refine a_iload (pc := 1464) a 0 dL_law_1464 rfl ?_
          refine a_i2l (pc := 1466) a h.1 dL_law_1466 ?_
          replace h := h.2
          refine a_lcmp0 (pc := 1467) a h.1 dL_law_1467 ?_
          replace h := h.2
          refine a_if_eq (pc := 1468) a ⟨by decide, by decide⟩ dL_law_1468 (tgt := 1473) (by decide) (fun _ => ?_) (fun hq => absurd (by decide) hq)
          refine a_goto (pc := 1473) a dL_law_1473 (tgt := 1560) (by decide) ?_
          refine a_iinc (pc := 1560) a (ls1 := [(4, vI (x1 + 6)), (6, vI x108), (5, vI x106), (0, Value.ref bb), (1, Value.ref (ad 0)), (2, Value.ref (ad 161)), (3, Value.ref (ad 176))]) 6 dL_law_1560 rfl (by decide) rfl ?_
          refine a_goto (pc := 1563) a dL_law_1563 (tgt := 23) (by decide) ?_
          refine a_sub (ls1 := [(0, Value.ref bb), (1, Value.ref (ad 0)), (2, Value.ref (ad 161)), (3, Value.ref (ad 176)), (4, vI (x1 + 6))]) [3, 4, 5, 6, 0] rfl ?_
          refine a_wid (cc9 + 6) (ss9 + 36) (by omega) (by omega) ?_
          exact hag23 (x1 + 6) s109 _ _ h ⟨by have := hbud.1; omega, by have := hbud.2.1; omega, by have := hbud.2.2; omega⟩
      · replace h := h.2.2.2 hq
        clear hq
        refine a_iconst (pc := 1454) a dL_law_1454 ?_
        exact h.elim
    · replace h := h.2.2.2.2.2.2.2.2.2.2.2.2.2.2.2.2.2.2.2.2.2.2.2.1 hq
      refine a_tsIn (pc := 40) a 22 hq ⟨by decide, by decide⟩ dL_law_40 (by decide) (by decide) rfl (tgt := 1476) (by decide) ?_
      clear hq
      refine a_aload_n (pc := 1476) a 1 dL_law_1476 rfl rfl ?_
      refine a_cvi (pc := 1477) a (As := []) (rest := []) w3 vc6 (fun sz => c_X6_clearText hinj hl0  h sz) (cwV 0 hts (gl_V (GL_34 _ (by decide +kernel)) (GL_35 _ (by decide +kernel)) (GL_35 _ (by decide +kernel)) (GL_1 _ (by decide +kernel)) (GL_35 _ (by decide +kernel))) rfl rfl rfl (by decide +kernel) ⟨Nat.le_of_ble_eq_true rfl, Nat.le_of_ble_eq_true rfl⟩) rfl rfl (Nat.le_of_ble_eq_true rfl) ⟨by show cc9 + 0 ≤ 601024; have := hbud.2.1; have := hbud.1; omega, by show ss9 + 0 ≤ 7293034; have := hbud.2.2; have := hbud.1; omega⟩ dL_law_1477 ?_
      clear h
      intro x111 s112 h
      refine a_aload_n (pc := 1480) a 2 dL_law_1480 rfl rfl ?_
      refine a_cvi (pc := 1481) a (As := []) (rest := [vI x111]) w2 vc7 (fun sz => c_X7_clearText hinj hl0  h sz) (cwV 0 hts (gl_V (GL_35 _ (by decide +kernel)) (GL_35 _ (by decide +kernel)) (GL_35 _ (by decide +kernel)) (GL_1 _ (by decide +kernel)) (GL_35 _ (by decide +kernel))) rfl rfl rfl (by decide +kernel) ⟨Nat.le_of_ble_eq_true rfl, Nat.le_of_ble_eq_true rfl⟩) rfl rfl (Nat.le_of_ble_eq_true rfl) ⟨by show cc9 + 0 + 0 ≤ 601024; have := hbud.2.1; have := hbud.1; omega, by show ss9 + 0 + 0 ≤ 7293034; have := hbud.2.2; have := hbud.1; omega⟩ dL_law_1481 ?_
      clear h
      intro x113 s114 h
      refine a_icmp_eq (pc := 1484) a h.1 h.2.1 dL_law_1484 (tgt := 1560) (by decide) (fun hq => ?_) (fun hq => ?_)
      · replace h := h.2.2.1 hq
        clear hq
        refine a_iinc (pc := 1560) a (ls1 := [(4, vI (x1 + 6)), (0, Value.ref bb), (1, Value.ref (ad 0)), (2, Value.ref (ad 161)), (3, Value.ref (ad 176))]) 4 dL_law_1560 rfl (by decide) rfl ?_
        refine a_goto (pc := 1563) a dL_law_1563 (tgt := 23) (by decide) ?_
        refine a_sub (ls1 := [(0, Value.ref bb), (1, Value.ref (ad 0)), (2, Value.ref (ad 161)), (3, Value.ref (ad 176)), (4, vI (x1 + 6))]) [1, 2, 3, 4, 0] rfl ?_
        refine a_wid (cc9 + 6) (ss9 + 36) (by omega) (by omega) ?_
        exact hag23 (x1 + 6) s114 _ _ h ⟨by have := hbud.1; omega, by have := hbud.2.1; omega, by have := hbud.2.2; omega⟩
      · replace h := h.2.2.2 hq
        clear hq
        refine a_iconst (pc := 1487) a dL_law_1487 ?_
        exact h.elim
    · replace h := h.2.2.2.2.2.2.2.2.2.2.2.2.2.2.2.2.2.2.2.2.2.2.2.2.1 hq
      refine a_tsIn (pc := 40) a 23 hq ⟨by decide, by decide⟩ dL_law_40 (by decide) (by decide) rfl (tgt := 1489) (by decide) ?_
      clear hq
      refine a_aload_n (pc := 1489) a 1 dL_law_1489 rfl rfl ?_
      refine a_cvi (pc := 1490) a (As := []) (rest := []) w3 vc6 (fun sz => c_X6_parse hinj hl0  h sz) (cwV 0 hts (gl_V (GL_35 _ (by decide +kernel)) (GL_35 _ (by decide +kernel)) (GL_35 _ (by decide +kernel)) (GL_1 _ (by decide +kernel)) (GL_35 _ (by decide +kernel))) rfl rfl rfl (by decide +kernel) ⟨Nat.le_of_ble_eq_true rfl, Nat.le_of_ble_eq_true rfl⟩) rfl rfl (Nat.le_of_ble_eq_true rfl) ⟨by show cc9 + 0 ≤ 601024; have := hbud.2.1; have := hbud.1; omega, by show ss9 + 0 ≤ 7293034; have := hbud.2.2; have := hbud.1; omega⟩ dL_law_1490 ?_
      clear h
      intro x115 s116 h
      refine a_aload_n (pc := 1493) a 2 dL_law_1493 rfl rfl ?_
      refine a_cvi (pc := 1494) a (As := []) (rest := [vI x115]) w2 vc7 (fun sz => c_X7_parse hinj hl0  h sz) (cwV 0 hts (gl_V (GL_36 _ (by decide +kernel)) (GL_36 _ (by decide +kernel)) (GL_36 _ (by decide +kernel)) (GL_1 _ (by decide +kernel)) (GL_36 _ (by decide +kernel))) rfl rfl rfl (by decide +kernel) ⟨Nat.le_of_ble_eq_true rfl, Nat.le_of_ble_eq_true rfl⟩) rfl rfl (Nat.le_of_ble_eq_true rfl) ⟨by show cc9 + 0 + 0 ≤ 601024; have := hbud.2.1; have := hbud.1; omega, by show ss9 + 0 + 0 ≤ 7293034; have := hbud.2.2; have := hbud.1; omega⟩ dL_law_1494 ?_
      clear h
      intro x117 s118 h
      refine a_icmp_eq (pc := 1497) a h.1 h.2.1 dL_law_1497 (tgt := 1560) (by decide) (fun hq => ?_) (fun hq => ?_)
      · replace h := h.2.2.1 hq
        clear hq
        refine a_iinc (pc := 1560) a (ls1 := [(4, vI (x1 + 6)), (0, Value.ref bb), (1, Value.ref (ad 0)), (2, Value.ref (ad 161)), (3, Value.ref (ad 176))]) 4 dL_law_1560 rfl (by decide) rfl ?_
        refine a_goto (pc := 1563) a dL_law_1563 (tgt := 23) (by decide) ?_
        refine a_sub (ls1 := [(0, Value.ref bb), (1, Value.ref (ad 0)), (2, Value.ref (ad 161)), (3, Value.ref (ad 176)), (4, vI (x1 + 6))]) [1, 2, 3, 4, 0] rfl ?_
        refine a_wid (cc9 + 6) (ss9 + 36) (by omega) (by omega) ?_
        exact hag23 (x1 + 6) s118 _ _ h ⟨by have := hbud.1; omega, by have := hbud.2.1; omega, by have := hbud.2.2; omega⟩
      · replace h := h.2.2.2 hq
        clear hq
        refine a_iconst (pc := 1500) a dL_law_1500 ?_
        exact h.elim
    · replace h := h.2.2.2.2.2.2.2.2.2.2.2.2.2.2.2.2.2.2.2.2.2.2.2.2.2.1 hq
      refine a_tsIn (pc := 40) a 24 hq ⟨by decide, by decide⟩ dL_law_40 (by decide) (by decide) rfl (tgt := 1502) (by decide) ?_
      clear hq
      refine a_aload_n (pc := 1502) a 1 dL_law_1502 rfl rfl ?_
      refine a_aload_n (pc := 1503) a 3 dL_law_1503 rfl rfl ?_
      refine a_cwi (pc := 1504) a (As := [Value.ref (ad 0), Value.ref (ad 176)]) (rest := []) (fun sz => c_L_undo hinj hl0  h sz) (vx_cwSW 2 hts (gl_S (GL_37 _ (by decide +kernel)) (GL_37 _ (by decide +kernel)) (GL_5 _ (by decide +kernel)) (GL_37 _ (by decide +kernel))) rfl rfl rfl (by decide +kernel) ⟨Nat.le_of_ble_eq_true rfl, Nat.le_of_ble_eq_true rfl⟩) rfl rfl (Nat.le_of_ble_eq_true rfl) ⟨by show cc9 + 1 ≤ 601024; have := hbud.2.1; have := hbud.1; omega, by show ss9 + 6 ≤ 7293034; have := hbud.2.2; have := hbud.1; omega⟩ dL_law_1504 ?_
      clear h
      intro x119 s120 h
      refine a_istore (pc := 1507) a (ls1 := [(5, vI x119), (0, Value.ref bb), (1, Value.ref (ad 0)), (2, Value.ref (ad 161)), (3, Value.ref (ad 176)), (4, vI x1)]) dL_law_1507 (by decide) rfl ?_
      refine a_aload_n (pc := 1509) a 3 dL_law_1509 rfl rfl ?_
      refine a_cvi (pc := 1510) a (As := []) (rest := []) w2 vc7 (fun sz => c_X7_undo hinj hl0  h sz) (cwV 0 hts (gl_V (GL_37 _ (by decide +kernel)) (GL_37 _ (by decide +kernel)) (GL_38 _ (by decide +kernel)) (GL_1 _ (by decide +kernel)) (GL_38 _ (by decide +kernel))) rfl rfl rfl (by decide +kernel) ⟨Nat.le_of_ble_eq_true rfl, Nat.le_of_ble_eq_true rfl⟩) rfl rfl (Nat.le_of_ble_eq_true rfl) ⟨by show cc9 + 1 + 0 ≤ 601024; have := hbud.2.1; have := hbud.1; omega, by show ss9 + 6 + 0 ≤ 7293034; have := hbud.2.2; have := hbud.1; omega⟩ dL_law_1510 ?_
      clear h
      intro x121 s122 h
      refine a_istore (pc := 1513) a (ls1 := [(6, vI x121), (5, vI x119), (0, Value.ref bb), (1, Value.ref (ad 0)), (2, Value.ref (ad 161)), (3, Value.ref (ad 176)), (4, vI x1)]) dL_law_1513 (by decide) rfl ?_
      refine a_aload_n (pc := 1515) a 4 dL_law_1515 rfl rfl ?_
      refine a_cvi (pc := 1516) a (As := []) (rest := []) w2 vc7 (fun sz => c_X7_thrown hinj hl0  h sz) (cwV 0 hts (gl_V (GL_9 _ (by decide +kernel)) (GL_9 _ (by decide +kernel)) (GL_9 _ (by decide +kernel)) (GL_1 _ (by decide +kernel)) (GL_9 _ (by decide +kernel))) rfl rfl rfl (by decide +kernel) ⟨Nat.le_of_ble_eq_true rfl, Nat.le_of_ble_eq_true rfl⟩) rfl rfl (Nat.le_of_ble_eq_true rfl) ⟨by show cc9 + 1 + 0 + 0 ≤ 601024; have := hbud.2.1; have := hbud.1; omega, by show ss9 + 6 + 0 + 0 ≤ 7293034; have := hbud.2.2; have := hbud.1; omega⟩ dL_law_1516 ?_
      rintro x123 s9 ⟨hs9, h9⟩
      subst s9
      replace h := h9
      clear h9
      refine a_iload (pc := 1519) a 1 dL_law_1519 rfl ?_
      refine a_icmp_eq (pc := 1521) a h.1 h.2.1 dL_law_1521 (tgt := 1526) (by decide) (fun hq => ?_) (fun hq => ?_)
      · replace h := h.2.2.1 hq
        clear hq
        refine a_iload (pc := 1526) a 1 dL_law_1526 rfl ?_
        refine a_if_ne (pc := 1528) a h.1 dL_law_1528 (tgt := 1543) (by decide) (fun hq => ?_) (fun hq => ?_)
        · replace h := h.2.1 hq
          clear hq
          refine a_goto (pc := 1543) a dL_law_1543 (tgt := 1560) (by decide) ?_
          refine a_iinc (pc := 1560) a (ls1 := [(4, vI (x1 + 6)), (6, vI x121), (5, vI x119), (0, Value.ref bb), (1, Value.ref (ad 0)), (2, Value.ref (ad 161)), (3, Value.ref (ad 176))]) 6 dL_law_1560 rfl (by decide) rfl ?_
          refine a_goto (pc := 1563) a dL_law_1563 (tgt := 23) (by decide) ?_
          refine a_sub (ls1 := [(0, Value.ref bb), (1, Value.ref (ad 0)), (2, Value.ref (ad 161)), (3, Value.ref (ad 176)), (4, vI (x1 + 6))]) [3, 4, 5, 6, 0] rfl ?_
          refine a_wid (cc9 + 6) (ss9 + 36) (by omega) (by omega) ?_
          exact hag23 (x1 + 6) s122 _ _ h ⟨by have := hbud.1; omega, by have := hbud.2.1; omega, by have := hbud.2.2; omega⟩
        · replace h := h.2.2 hq
          clear hq
          refine a_aload_n (pc := 1531) a 5 dL_law_1531 rfl rfl ?_
          refine a_iconst (pc := 1532) a dL_law_1532 ?_
          refine a_lald (pc := 1533) a w1 (by decide) (by decide) dL_law_1533 ?_
          refine a_iload (pc := 1534) a 0 dL_law_1534 rfl ?_
          refine a_i2l (pc := 1536) a h.1 dL_law_1536 ?_
          replace h := h.2
          refine a_lcmp0 (pc := 1537) a h.1 dL_law_1537 ?_
          replace h := h.2
          refine a_if_eq (pc := 1538) a ⟨by decide, by decide⟩ dL_law_1538 (tgt := 1543) (by decide) (fun _ => ?_) (fun hq => absurd (by decide) hq)
          refine a_goto (pc := 1543) a dL_law_1543 (tgt := 1560) (by decide) ?_
          refine a_iinc (pc := 1560) a (ls1 := [(4, vI (x1 + 6)), (6, vI x121), (5, vI x119), (0, Value.ref bb), (1, Value.ref (ad 0)), (2, Value.ref (ad 161)), (3, Value.ref (ad 176))]) 6 dL_law_1560 rfl (by decide) rfl ?_
          refine a_goto (pc := 1563) a dL_law_1563 (tgt := 23) (by decide) ?_
          refine a_sub (ls1 := [(0, Value.ref bb), (1, Value.ref (ad 0)), (2, Value.ref (ad 161)), (3, Value.ref (ad 176)), (4, vI (x1 + 6))]) [3, 4, 5, 6, 0] rfl ?_
          refine a_wid (cc9 + 6) (ss9 + 36) (by omega) (by omega) ?_
          exact hag23 (x1 + 6) s122 _ _ h ⟨by have := hbud.1; omega, by have := hbud.2.1; omega, by have := hbud.2.2; omega⟩
      · replace h := h.2.2.2 hq
        clear hq
        refine a_iconst (pc := 1524) a dL_law_1524 ?_
        exact h.elim
    · replace h := h.2.2.2.2.2.2.2.2.2.2.2.2.2.2.2.2.2.2.2.2.2.2.2.2.2.2.1 hq
      refine a_tsIn (pc := 40) a 25 hq ⟨by decide, by decide⟩ dL_law_40 (by decide) (by decide) rfl (tgt := 1546) (by decide) ?_
      clear hq
      refine a_aload_n (pc := 1546) a 1 dL_law_1546 rfl rfl ?_
      refine a_cvj (pc := 1547) a (As := []) (rest := []) w3 vc6 (fun sz => c_X6_digest hinj hl0  h sz) (cwV 0 hts (gl_V (GL_38 _ (by decide +kernel)) (GL_38 _ (by decide +kernel)) (GL_38 _ (by decide +kernel)) (GL_1 _ (by decide +kernel)) (GL_38 _ (by decide +kernel))) rfl rfl rfl (by decide +kernel) ⟨Nat.le_of_ble_eq_true rfl, Nat.le_of_ble_eq_true rfl⟩) rfl rfl (Nat.le_of_ble_eq_true rfl) ⟨by show cc9 + 0 ≤ 601024; have := hbud.2.1; have := hbud.1; omega, by show ss9 + 0 ≤ 7293034; have := hbud.2.2; have := hbud.1; omega⟩ dL_law_1547 ?_
      clear h
      intro x124 s125 h
      refine a_aload_n (pc := 1550) a 2 dL_law_1550 rfl rfl ?_
      refine a_cvj (pc := 1551) a (As := []) (rest := [vJ x124]) w2 vc7 (fun sz => c_X7_digest hinj hl0  h sz) (cwV 0 hts (gl_V (GL_38 _ (by decide +kernel)) (GL_38 _ (by decide +kernel)) (GL_38 _ (by decide +kernel)) (GL_1 _ (by decide +kernel)) (GL_38 _ (by decide +kernel))) rfl rfl rfl (by decide +kernel) ⟨Nat.le_of_ble_eq_true rfl, Nat.le_of_ble_eq_true rfl⟩) rfl rfl (Nat.le_of_ble_eq_true rfl) ⟨by show cc9 + 0 + 0 ≤ 601024; have := hbud.2.1; have := hbud.1; omega, by show ss9 + 0 + 0 ≤ 7293034; have := hbud.2.2; have := hbud.1; omega⟩ dL_law_1551 ?_
      clear h
      intro x126 s127 h
      refine a_lcmp0 (pc := 1554) a h.1 dL_law_1554 ?_
      replace h := h.2
      refine a_if_eq (pc := 1555) a ⟨by decide, by decide⟩ dL_law_1555 (tgt := 1560) (by decide) (fun _ => ?_) (fun hq => absurd (by decide) hq)
      refine a_iinc (pc := 1560) a (ls1 := [(4, vI (x1 + 6)), (0, Value.ref bb), (1, Value.ref (ad 0)), (2, Value.ref (ad 161)), (3, Value.ref (ad 176))]) 4 dL_law_1560 rfl (by decide) rfl ?_
      refine a_goto (pc := 1563) a dL_law_1563 (tgt := 23) (by decide) ?_
      refine a_sub (ls1 := [(0, Value.ref bb), (1, Value.ref (ad 0)), (2, Value.ref (ad 161)), (3, Value.ref (ad 176)), (4, vI (x1 + 6))]) [1, 2, 3, 4, 0] rfl ?_
      refine a_wid (cc9 + 6) (ss9 + 36) (by omega) (by omega) ?_
      exact hag23 (x1 + 6) s127 _ _ h ⟨by have := hbud.1; omega, by have := hbud.2.1; omega, by have := hbud.2.2; omega⟩
    · have hr := h.1
      replace h := h.2.2.2.2.2.2.2.2.2.2.2.2.2.2.2.2.2.2.2.2.2.2.2.2.2.2.2 hq
      refine a_tsOut (pc := 40) a hr dL_law_40 hq (tgt := 1560) (by decide) ?_
      clear hq hr
      refine a_iinc (pc := 1560) a (ls1 := [(4, vI (x1 + 6)), (0, Value.ref bb), (1, Value.ref (ad 0)), (2, Value.ref (ad 161)), (3, Value.ref (ad 176))]) 4 dL_law_1560 rfl (by decide) rfl ?_
      refine a_goto (pc := 1563) a dL_law_1563 (tgt := 23) (by decide) ?_
      refine a_sub (ls1 := [(0, Value.ref bb), (1, Value.ref (ad 0)), (2, Value.ref (ad 161)), (3, Value.ref (ad 176)), (4, vI (x1 + 6))]) [1, 2, 3, 4, 0] rfl ?_
      refine a_wid (cc9 + 6) (ss9 + 36) (by omega) (by omega) ?_
      exact hag23 (x1 + 6) s2 _ _ h ⟨by have := hbud.1; omega, by have := hbud.2.1; omega, by have := hbud.2.2; omega⟩
end LAW
