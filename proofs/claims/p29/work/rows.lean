section
-- ===== PART A: goes FIRST, ahead of the names: the tables' words, and 'selects' of the private methods out of them =====
/-- a private method of a class that the tables say can be made, by its rows of tables_1 -/
def lw_okq (q : MethodName × Nat) : Prop := (q.1.cls ≠ "java/lang/invoke/MethodHandle" ∧ q.1.cls ≠ "java/lang/invoke/VarHandle") ∧ Cond.instantiable q.1.cls q.2 ∈ tables_1 ∧ Cond.privateMethod q.1 ∈ tables_1 ∧ Cond.instanceMethod q.1 ∈ tables_1
theorem lw_p0 : lw_okq (⟨"java/lang/Throwable", "fillInStackTrace", "(I)Ljava/lang/Throwable;"⟩, 6) := ⟨⟨by decide +kernel, by decide +kernel⟩, List.mem_of_getElem? (i := 377) (by decide +kernel), List.mem_of_getElem? (i := 375) (by decide +kernel), List.mem_of_getElem? (i := 376) (by decide +kernel)⟩
theorem lw_p1 : lw_okq (⟨"SightLegend", "saveState", "()V"⟩, 8) := ⟨⟨by decide +kernel, by decide +kernel⟩, List.mem_of_getElem? (i := 17) (by decide +kernel), List.mem_of_getElem? (i := 411) (by decide +kernel), List.mem_of_getElem? (i := 412) (by decide +kernel)⟩
theorem lw_p2 : lw_okq (⟨"SightLegend", "demandSign", "(I)V"⟩, 8) := ⟨⟨by decide +kernel, by decide +kernel⟩, List.mem_of_getElem? (i := 17) (by decide +kernel), List.mem_of_getElem? (i := 539) (by decide +kernel), List.mem_of_getElem? (i := 540) (by decide +kernel)⟩
theorem lw_p3 : lw_okq (⟨"SightLegend$Legend", "seeAllShown", "(LSightLegend$MapState;)V"⟩, 12) := ⟨⟨by decide +kernel, by decide +kernel⟩, List.mem_of_getElem? (i := 99) (by decide +kernel), List.mem_of_getElem? (i := 620) (by decide +kernel), List.mem_of_getElem? (i := 621) (by decide +kernel)⟩
theorem lw_p4 : lw_okq (⟨"SightLegend$Legend", "hideCovered", "(LSightLegend$MapState;)V"⟩, 12) := ⟨⟨by decide +kernel, by decide +kernel⟩, List.mem_of_getElem? (i := 99) (by decide +kernel), List.mem_of_getElem? (i := 625) (by decide +kernel), List.mem_of_getElem? (i := 626) (by decide +kernel)⟩
theorem lw_p5 : lw_okq (⟨"SightLegend$Legend", "makeRound", "(LSightLegend$MapState;I)V"⟩, 12) := ⟨⟨by decide +kernel, by decide +kernel⟩, List.mem_of_getElem? (i := 99) (by decide +kernel), List.mem_of_getElem? (i := 633) (by decide +kernel), List.mem_of_getElem? (i := 634) (by decide +kernel)⟩
theorem lw_p6 : lw_okq (⟨"SightLegend$Ranges", "countSigns", "(LSightLegend$MapState;[Z)V"⟩, 6) := ⟨⟨by decide +kernel, by decide +kernel⟩, List.mem_of_getElem? (i := 105) (by decide +kernel), List.mem_of_getElem? (i := 645) (by decide +kernel), List.mem_of_getElem? (i := 646) (by decide +kernel)⟩
theorem lw_p7 : lw_okq (⟨"SightLegend$Ranges", "takeClasses", "(I)V"⟩, 6) := ⟨⟨by decide +kernel, by decide +kernel⟩, List.mem_of_getElem? (i := 105) (by decide +kernel), List.mem_of_getElem? (i := 653) (by decide +kernel), List.mem_of_getElem? (i := 654) (by decide +kernel)⟩
theorem lw_p8 : lw_okq (⟨"SightLegend$Ranges", "joinFewest", "(I)V"⟩, 6) := ⟨⟨by decide +kernel, by decide +kernel⟩, List.mem_of_getElem? (i := 105) (by decide +kernel), List.mem_of_getElem? (i := 660) (by decide +kernel), List.mem_of_getElem? (i := 661) (by decide +kernel)⟩
theorem lw_p9 : lw_okq (⟨"SightLegend$Lines", "orderKinds", "(LSightLegend$MapState;LSightLegend$Ranges;)V"⟩, 14) := ⟨⟨by decide +kernel, by decide +kernel⟩, List.mem_of_getElem? (i := 137) (by decide +kernel), List.mem_of_getElem? (i := 668) (by decide +kernel), List.mem_of_getElem? (i := 669) (by decide +kernel)⟩
theorem lw_p10 : lw_okq (⟨"SightLegend$Lines", "addKindLines", "(IILSightLegend$Ranges;)V"⟩, 14) := ⟨⟨by decide +kernel, by decide +kernel⟩, List.mem_of_getElem? (i := 137) (by decide +kernel), List.mem_of_getElem? (i := 672) (by decide +kernel), List.mem_of_getElem? (i := 673) (by decide +kernel)⟩
theorem lw_p11 : lw_okq (⟨"SightLegend$Lines", "add", "(IIIIII)V"⟩, 14) := ⟨⟨by decide +kernel, by decide +kernel⟩, List.mem_of_getElem? (i := 137) (by decide +kernel), List.mem_of_getElem? (i := 676) (by decide +kernel), List.mem_of_getElem? (i := 677) (by decide +kernel)⟩
theorem lw_p12 : lw_okq (⟨"SightLegend$Lines", "addGroup", "(LSightLegend$MapState;ILSightLegend$Ranges;)V"⟩, 14) := ⟨⟨by decide +kernel, by decide +kernel⟩, List.mem_of_getElem? (i := 137) (by decide +kernel), List.mem_of_getElem? (i := 680) (by decide +kernel), List.mem_of_getElem? (i := 681) (by decide +kernel)⟩
theorem lw_p13 : lw_okq (⟨"SightLegend$Box", "vanish", "()V"⟩, 6) := ⟨⟨by decide +kernel, by decide +kernel⟩, List.mem_of_getElem? (i := 196) (by decide +kernel), List.mem_of_getElem? (i := 693) (by decide +kernel), List.mem_of_getElem? (i := 694) (by decide +kernel)⟩
theorem lw_p14 : lw_okq (⟨"SightLegend$Box", "moveTo", "(LSightLegend$MapState;I)V"⟩, 6) := ⟨⟨by decide +kernel, by decide +kernel⟩, List.mem_of_getElem? (i := 196) (by decide +kernel), List.mem_of_getElem? (i := 700) (by decide +kernel), List.mem_of_getElem? (i := 701) (by decide +kernel)⟩
theorem lw_p15 : lw_okq (⟨"SightLegend", "roundFact", "(I)I"⟩, 8) := ⟨⟨by decide +kernel, by decide +kernel⟩, List.mem_of_getElem? (i := 17) (by decide +kernel), List.mem_of_getElem? (i := 724) (by decide +kernel), List.mem_of_getElem? (i := 725) (by decide +kernel)⟩
def lw_privs_1 : List (MethodName × Nat) := [(⟨"java/lang/Throwable", "fillInStackTrace", "(I)Ljava/lang/Throwable;"⟩, 6), (⟨"SightLegend", "saveState", "()V"⟩, 8), (⟨"SightLegend", "demandSign", "(I)V"⟩, 8), (⟨"SightLegend$Legend", "seeAllShown", "(LSightLegend$MapState;)V"⟩, 12), (⟨"SightLegend$Legend", "hideCovered", "(LSightLegend$MapState;)V"⟩, 12), (⟨"SightLegend$Legend", "makeRound", "(LSightLegend$MapState;I)V"⟩, 12), (⟨"SightLegend$Ranges", "countSigns", "(LSightLegend$MapState;[Z)V"⟩, 6), (⟨"SightLegend$Ranges", "takeClasses", "(I)V"⟩, 6), (⟨"SightLegend$Ranges", "joinFewest", "(I)V"⟩, 6), (⟨"SightLegend$Lines", "orderKinds", "(LSightLegend$MapState;LSightLegend$Ranges;)V"⟩, 14), (⟨"SightLegend$Lines", "addKindLines", "(IILSightLegend$Ranges;)V"⟩, 14), (⟨"SightLegend$Lines", "add", "(IIIIII)V"⟩, 14), (⟨"SightLegend$Lines", "addGroup", "(LSightLegend$MapState;ILSightLegend$Ranges;)V"⟩, 14), (⟨"SightLegend$Box", "vanish", "()V"⟩, 6), (⟨"SightLegend$Box", "moveTo", "(LSightLegend$MapState;I)V"⟩, 6), (⟨"SightLegend", "roundFact", "(I)I"⟩, 8)]
theorem lw_r1 : ∀ q ∈ lw_privs_1, lw_okq q := List.forall_mem_cons.mpr ⟨lw_p0, List.forall_mem_cons.mpr ⟨lw_p1, List.forall_mem_cons.mpr ⟨lw_p2, List.forall_mem_cons.mpr ⟨lw_p3, List.forall_mem_cons.mpr ⟨lw_p4, List.forall_mem_cons.mpr ⟨lw_p5, List.forall_mem_cons.mpr ⟨lw_p6, List.forall_mem_cons.mpr ⟨lw_p7, List.forall_mem_cons.mpr ⟨lw_p8, List.forall_mem_cons.mpr ⟨lw_p9, List.forall_mem_cons.mpr ⟨lw_p10, List.forall_mem_cons.mpr ⟨lw_p11, List.forall_mem_cons.mpr ⟨lw_p12, List.forall_mem_cons.mpr ⟨lw_p13, List.forall_mem_cons.mpr ⟨lw_p14, List.forall_mem_cons.mpr ⟨lw_p15, fun _ h => absurd h List.not_mem_nil⟩⟩⟩⟩⟩⟩⟩⟩⟩⟩⟩⟩⟩⟩⟩⟩
theorem lw_p16 : lw_okq (⟨"SightLegend", "numberOf", "(I)I"⟩, 8) := ⟨⟨by decide +kernel, by decide +kernel⟩, List.mem_of_getElem? (i := 17) (by decide +kernel), List.mem_of_getElem? (i := 740) (by decide +kernel), List.mem_of_getElem? (i := 741) (by decide +kernel)⟩
theorem lw_p17 : lw_okq (⟨"SightLegend", "signFact", "(II)I"⟩, 8) := ⟨⟨by decide +kernel, by decide +kernel⟩, List.mem_of_getElem? (i := 17) (by decide +kernel), List.mem_of_getElem? (i := 781) (by decide +kernel), List.mem_of_getElem? (i := 782) (by decide +kernel)⟩
theorem lw_p18 : lw_okq (⟨"SightLegend", "kindFact", "(II)I"⟩, 8) := ⟨⟨by decide +kernel, by decide +kernel⟩, List.mem_of_getElem? (i := 17) (by decide +kernel), List.mem_of_getElem? (i := 798) (by decide +kernel), List.mem_of_getElem? (i := 799) (by decide +kernel)⟩
def lw_privs_2 : List (MethodName × Nat) := [(⟨"SightLegend", "numberOf", "(I)I"⟩, 8), (⟨"SightLegend", "signFact", "(II)I"⟩, 8), (⟨"SightLegend", "kindFact", "(II)I"⟩, 8)]
theorem lw_r2 : ∀ q ∈ lw_privs_2, lw_okq q := List.forall_mem_cons.mpr ⟨lw_p16, List.forall_mem_cons.mpr ⟨lw_p17, List.forall_mem_cons.mpr ⟨lw_p18, fun _ h => absurd h List.not_mem_nil⟩⟩⟩
def lw_privs : List (MethodName × Nat) := lw_privs_1 ++ (lw_privs_2)
def lw_tbl : List Cond := k2_sels lw_privs ++ tables_1
theorem lw_privs_ok : ∀ q ∈ lw_privs, lw_okq q := by
  show ∀ q ∈ lw_privs_1 ++ (lw_privs_2), lw_okq q
  exact List.forall_mem_append.mpr ⟨lw_r1, lw_r2⟩
/-- the streams that the claim lets the run draw from -/
abbrev lw_cs : List Choice := [Jvm.Choice.named "NaN.bits"]
theorem lw_bits : nanBits ∈ lw_cs := by first | decide | exact List.mem_cons_self | simp [lw_cs, nanBits]
-- ===== end of PART A; then your names; then what follows =====
/-! ===== BEGIN words of one list among another's, by their places ===== -/
theorem goodIn_r {big : List Cond} (ws : List Cond) (ps : List Nat) (hp : ws = ps.filterMap (fun i => big[i]?)) (h : ws.all goodWord = true) : GoodIn big ws := by
  intro w hw
  have h1 := List.all_eq_true.mp h w hw
  rw [hp] at hw
  obtain ⟨i, -, hi⟩ := List.mem_filterMap.mp hw
  have hm : w ∈ big := by first | exact List.mem_of_getElem? hi | exact List.getElem?_mem hi
  exact ⟨hm, good_of_word h1⟩
theorem goodIn_app {big a b : List Cond} (ha : GoodIn big a) (hb : GoodIn big b) : GoodIn big (a ++ b) := fun w h => (List.mem_append.mp h).elim (ha w) (hb w)
theorem goodIn_ca {big a b : List Cond} {c : Cond} (ha : GoodIn big (c :: a)) (hb : GoodIn big b) : GoodIn big (c :: (a ++ b)) := fun w h => (List.mem_cons.mp h).elim (fun e => ha w (List.mem_cons.mpr (Or.inl e))) (fun h => (List.mem_append.mp h).elim (fun h => ha w (List.mem_cons.mpr (Or.inr h))) (hb w))
theorem goodIn_sub {big ws : List Cond} (hm : ∀ w ∈ ws, w ∈ big) (h : ws.all goodWord = true) : GoodIn big ws := fun w hw => ⟨hm w hw, good_of_word (List.all_eq_true.mp h w hw)⟩
/-! ===== END ===== -/

/-! ===== BEGIN exceptions that leave a method, and their catching by the caller (launches without stack traces) ===== -/
section VXA
/-! The laws vx_back, vx_callV, vx_callS, vx_callSW, vx_throw0, vx_throwS follow proofs of the library, with one case more: JvmDerived/Free/Laws.lean (Back.of_free), Shelf42/LK1.lean (callV, callS), Shelf/KitTraced.lean (throwNew0V, throwNewS). -/
/-- where a method has thrown q: the class by its name, the cell, what was written, the world -/
def vx_T (XC : String → State → State → Prop) (st : State) (q : Addr) (t : State) (mc ms : Nat) (free : Addr → Prop) : Prop :=
  ∃ (E : String) (ce : Cell) (L : List Loc), XC E st t ∧ t.heap[q]? = some ce ∧ ce.vm = .none ∧ st.vm.findClass E = some ce.cls ∧ st.WarmedH t.vm ∧ st.sameButNew ({ t with vm := st.vm } : State) L mc ms ∧ ∀ z ∈ L, free z.base
def vx_Q (Qc : Array Value → State → Outcome → State → Prop) (XC : String → State → State → Prop) (mc ms : Nat) (free : Addr → Prop) : Array Value → State → Outcome → State → Prop := fun a st o t =>
  (Qc a st o t ∧ ∃ L, FrameEnd st o t L mc ms ∧ ∀ q ∈ L, free q.base) ∨ ∃ q, o = .threw q ∧ vx_T XC st q t mc ms free
/-- a callee that returns or throws -/
def vx_Met (l : Launch) (y : MethodName) (ws : List Cond) (rm : Room) (Pc : Array Value → State → Prop) (Qc : Array Value → State → Outcome → State → Prop) (XC : String → State → State → Prop) (mc ms : Nat) (free : Addr → Prop) : Prop :=
  MetFree l y (headSpec ws rm) Pc (fun _ _ _ _ _ => True) (vx_Q Qc XC mc ms free)
def vx_Post (XC : String → State → State → Prop) (mc ms : Nat) (free : Addr → Prop) : Pt → Array Value → Addr → Pt → Prop := fun A a q B =>
  ∃ (g : JFrame) (mk : MethodId) (t : State) (L : List Loc) (E : String) (ce : Cell), B.U.heap = t.heap ∧ B.U.vm = t.vm ∧ XC E (A.U.calling g mk a) t ∧ t.heap[q]? = some ce ∧ ce.vm = .none ∧ A.U.vm.findClass E = some ce.cls ∧ B.locs = A.locs ++ L ∧ (∀ z ∈ L, free z.base) ∧ B.cells = A.cells + mc ∧ B.slots = A.slots + ms
def vx_Back (l : Launch) (R : Room) (p : Program) (e : Env) (below : List Frame) (s : State) (sargs : Array Value) (y : MethodName) (len W9 : Nat)
    (Pre : Pt → Array Value → Prop) (Post : Pt → Array Value → Option Value → Pt → Prop) (PostX : Pt → Array Value → Addr → Pt → Prop) : Prop :=
  ∀ (m : MethodId) (meth : Method) (c : Code) (A : Pt) (g : JFrame) (ig : Instr) (mk : MethodId) (a : Array Value),
    Stand p l e R s m sargs below meth c A.U A.locs A.cells A.slots → g.method = m → g.locals.size = c.maxLocals → decode c.code g.pc = .ok (ig, len) →
    2 * g.monitorRoom + (g.stack.map fun v => v.category).sum ≤ W9 → A.U.methodNamed? y = some mk → Pre A a →
    (∃ (v : Option Value) (B : Pt), Stand p l e R s m sargs below meth c B.U B.locs B.cells B.slots ∧ Post A a v B ∧
      Steps p.tables e below (doInvoke e (A.U.setTop g) [] mk a).1 (B.U.setTop { g with pc := g.pc + len, stack := v.toList ++ g.stack })) ∨
    (∃ (q : Addr) (B : Pt), Stand p l e R s m sargs below meth c B.U B.locs B.cells B.slots ∧ PostX A a q B ∧
      Steps p.tables e below (doInvoke e (A.U.setTop g) [] mk a).1 ((B.U.setTop g).pushFrame (.throwing q)))
section Payer
variable {l : Launch} {R : Room} {p : Program} {e : Env} {below : List Frame} {s : State} {sargs : Array Value} {y : MethodName} {len W9 : Nat}
theorem vx_back {ws : List Cond} {rm : Room} {Pc : Array Value → State → Prop} {Qc : Array Value → State → Outcome → State → Prop} {XC : String → State → State → Prop} {mc ms : Nat} {free : Addr → Prop} {bytes : ByteArray} {maxL : Nat} {ret : Option FieldType}
    (hM : vx_Met l y ws rm Pc Qc XC mc ms free) (hblind : FrameBlind Pc) (hrc : rm.cells = mc) (hrs : rm.slots = ms)
    (hframes : rm.frames + 1 ≤ R.frames) (hlocals : W9 + (maxL + 11) + rm.locals ≤ R.locals)
    (hws : ∀ w ∈ ws, ∀ a' U, s.WarmedH U.vm → w.before a' U = true) (hcode : Cond.code y bytes maxL ret ∈ ws) (hinit : ∀ a' U, s.WarmedH U.vm → (Cond.initialized y.cls).before a' U = true) :
    vx_Back l R p e below s sargs y len W9 (PreOf R mc ms Pc) (PostOf Qc mc ms free) (vx_Post XC mc ms free) := by
  intro m meth c A g ig mk a X hg hsize hdg hW hn hp
  have h1 : (headSpec ws rm).pre.before a A.U = true := atoms_intro fun w hw => hws w hw _ _ X.warmed
  have h2 : (Cond.code y bytes maxL ret).before a A.U = true := hws _ hcode _ _ X.warmed
  have h3 : (Cond.initialized y.cls).before a A.U = true := hinit _ _ X.warmed
  have h4 : A.cells + (headSpec ws rm).room.cells ≤ R.cells := by rw [show (headSpec ws rm).room.cells = mc from hrc]; exact hp.1
  have h5 : A.slots + (headSpec ws rm).room.slots ≤ R.slots := by rw [show (headSpec ws rm).room.slots = ms from hrs]; exact hp.2.1
  have hPc : Pc a (A.U.calling g mk a) := hblind _ _ _ _ hp.2.2
  obtain ⟨U, Ls, c0, s0⟩ := A
  dsimp only [Pt.U, Pt.locs, Pt.cells, Pt.slots] at h1 h2 h3 h4 h5 X hn hPc ⊢
  obtain ⟨methY, cY, hmY, hcY, -, hlY, -, -, -, -⟩ := Cond.code_spec hn h2
  obtain ⟨kY, hkY, -⟩ := className_of_methodNamed hn
  have hinitY : kY.init = .initialized := Cond.initialized_spec (findClass_of_methodNamed hn) hkY h3
  have h : At U g.method c below := by rw [hg]; exact X.here
  have hlocals9 : W9 + (maxL + 11) + (headSpec ws rm).room.locals ≤ R.locals := hlocals
  have happ : (headSpec ws rm).appliesLoose y e.platform (U.calling g mk a) = true :=
    Spec.appliesLoose_calling (g := g) h hdg hn hkY hinitY
      (X.room_calling (g := g) (R' := (headSpec ws rm).room) hsize hmY hcY hframes (by rw [hlY]; omega) h4 h5) h1
  obtain ⟨mid, hmid⟩ := h.above
  have hfr : (U.setTop g).frames = (.java g :: mid) ++ below := by rw [State.frames_setTop' g h.top, hmid]; rfl
  obtain ⟨o, s₂, hsteps, -, hend, hq⟩ := Steps.callFree hM p X.admits X.cas X.clock (acts := []) hfr happ hPc trivial
  have hq' : vx_Q Qc XC mc ms free a (U.calling g mk a) o s₂ := hq
  rw [State.frames_setTop' g h.top] at hend
  obtain ⟨g₀, hg0⟩ := Option.isSome_iff_exists.mp h.top
  obtain ⟨r, hr⟩ := State.topJava?_eq_some.mp hg0
  have hr' : (({ U with heap := s₂.heap, slotsUsed := s₂.slotsUsed } : State).setVm s₂.vm).frames = .java g₀ :: r := hr
  rcases hq' with ⟨hqc, L, hfe, hL⟩ | ⟨q, rfl, E, ce, L, hx, hce, hcv, hcl, hW₂, hsm, hL⟩
  · obtain ⟨⟨v, rfl⟩, hW₂, e2, q2, q3, q4, q5, q6⟩ := id hfe
    have e3 : s₂ = ({ (U.calling g mk a).setFrames s₂.frames with heap := s₂.heap, slotsUsed := s₂.slotsUsed } : State).setVm s₂.vm := by
      have : s₂ = ({ s₂ with vm := (U.calling g mk a).vm } : State).setVm s₂.vm := rfl
      rw [e2] at this
      exact this
    obtain ⟨c₂, i₂, len₂, hc₂, hd₂, hf₂⟩ := hend
    have hW' : U.WarmedH s₂.vm := hW₂
    have hcc : c₂ = c := by
      have h1 : s₂.code? g.method = U.code? g.method := by
        rw [State.code?_eq, State.code?_eq, hW'.alike.method?]
      exact Option.some.inj (hc₂.symm.trans (h1.trans h.code))
    subst hcc
    have hlen : len₂ = len := by rw [hdg] at hd₂; cases hd₂; rfl
    subst hlen
    have hs₂ : s₂ = (({ U with heap := s₂.heap, slotsUsed := s₂.slotsUsed } : State).setVm s₂.vm).setTop { g with pc := g.pc + len₂, stack := v.toList ++ g.stack } := by
      refine e3.trans ?_
      rw [hf₂, State.calling_eq h.top, State.setFrames_setFrames, State.setTop_of_frames _ hr', hr]
      rfl
    have hsame : U.sameButNew ({ U with heap := s₂.heap, slotsUsed := s₂.slotsUsed } : State) L mc ms := by
      refine ⟨?_, q2, q3, q4, q5, q6⟩
      obtain ⟨t, ht, -⟩ := State.frames_cons hr
      show ({ U with heap := s₂.heap, slotsUsed := s₂.slotsUsed } : State) = { U.setFrames U.frames with heap := s₂.heap, slotsUsed := s₂.slotsUsed }
      rw [State.setFrames_self ht]
    subst hg
    refine Or.inl ⟨v, ⟨(({ U with heap := s₂.heap, slotsUsed := s₂.slotsUsed } : State).setVm s₂.vm), Ls ++ L, c0 + mc, s0 + ms⟩,
      ⟨X.admits, X.cas, X.clock, X.frames, X.room, X.hears, X.method, X.code, (X.here.setHeapUsed s₂.heap s₂.slotsUsed).setVm hW'.alike, X.tail, State.WarmedH.trans X.warmed hW', X.limits, X.bytes, X.same.trans (hsame.setVm s.vm)⟩,
      ⟨g, mk, s₂, L, rfl, rfl, hqc, rfl, hL, rfl, rfl⟩, ?_⟩
    show Steps p.tables e below _ ((({ U with heap := s₂.heap, slotsUsed := s₂.slotsUsed } : State).setVm s₂.vm).setTop { g with pc := g.pc + len₂, stack := v.toList ++ g.stack })
    rw [← hs₂]
    exact hsteps
  · obtain ⟨e2, q2, q3, q4, q5, q6⟩ := id hsm
    have e3 : s₂ = ({ (U.calling g mk a).setFrames s₂.frames with heap := s₂.heap, slotsUsed := s₂.slotsUsed } : State).setVm s₂.vm := by
      have : s₂ = ({ s₂ with vm := (U.calling g mk a).vm } : State).setVm s₂.vm := rfl
      rw [e2] at this
      exact this
    have hf₂ : s₂.frames = .throwing q :: .java g :: U.frames.tail := hend
    have hW' : U.WarmedH s₂.vm := hW₂
    have hs₂ : s₂ = ((({ U with heap := s₂.heap, slotsUsed := s₂.slotsUsed } : State).setVm s₂.vm).setTop g).pushFrame (.throwing q) := by
      refine e3.trans ?_
      rw [hf₂, State.calling_eq h.top, State.setFrames_setFrames, State.pushFrame, State.frames_setTop _ hr', State.setTop_of_frames _ hr', State.setFrames_setFrames, hr]
      rfl
    have hsame : U.sameButNew ({ U with heap := s₂.heap, slotsUsed := s₂.slotsUsed } : State) L mc ms := by
      refine ⟨?_, q2, q3, q4, q5, q6⟩
      obtain ⟨t, ht, -⟩ := State.frames_cons hr
      show ({ U with heap := s₂.heap, slotsUsed := s₂.slotsUsed } : State) = { U.setFrames U.frames with heap := s₂.heap, slotsUsed := s₂.slotsUsed }
      rw [State.setFrames_self ht]
    subst hg
    refine Or.inr ⟨q, ⟨(({ U with heap := s₂.heap, slotsUsed := s₂.slotsUsed } : State).setVm s₂.vm), Ls ++ L, c0 + mc, s0 + ms⟩,
      ⟨X.admits, X.cas, X.clock, X.frames, X.room, X.hears, X.method, X.code, (X.here.setHeapUsed s₂.heap s₂.slotsUsed).setVm hW'.alike, X.tail, State.WarmedH.trans X.warmed hW', X.limits, X.bytes, X.same.trans (hsame.setVm s.vm)⟩,
      ⟨g, mk, s₂, L, E, ce, rfl, rfl, hx, hce, hcv, hcl, rfl, hL, rfl, rfl⟩, ?_⟩
    show Steps p.tables e below _ (((({ U with heap := s₂.heap, slotsUsed := s₂.slotsUsed } : State).setVm s₂.vm).setTop g).pushFrame (.throwing q))
    rw [← hs₂]
    exact hsteps
end Payer
section Calls
variable {p : Program} {l : Launch} {e : Env} {R : Room} {s : State} {m : MethodId} {args : Array Value} {below : List Frame} {meth : Method} {c : Code} {T : State} {locs : List Loc} {cells slots : Nat}
theorem vx_callV (X : Stand p l e R s m args below meth c T locs cells slots) (hexec : p.tables.exec = Jvm.exec) {own C : String} {index : Nat} {y : MethodName} {bytes : ByteArray} {maxL : Nat} {ret : Option FieldType}
    (hown : s.vm.findClass own = some m.cls) (hlink : (Cond.methodLink own index y).before args s = true) (hinst : (Cond.instanceMethod y).before args s = true) (hsel : (Cond.selects C y y).before args s = true)
    (hcode : (Cond.code y bytes maxL ret).before args s = true) (hy : y.cls ≠ "java/lang/invoke/MethodHandle" ∧ y.cls ≠ "java/lang/invoke/VarHandle")
    {W9 : Nat} {Pre : Pt → Array Value → Prop} {Post : Pt → Array Value → Option Value → Pt → Prop} {PostX : Pt → Array Value → Addr → Pt → Prop} (hK : vx_Back l R p e below s args y 3 W9 Pre Post PostX)
    {b : Addr} {cellB : Cell} (hcell : T.heap[b]? = some cellB) (hobj : cellB.vm.isStatics = false) (hcls : s.vm.findClass C = some cellB.cls)
    {g : JFrame} (hg : g.method = m) (hsize : g.locals.size = c.maxLocals) {argsL rest : List Value} (hlen : ∀ sig, parseMethodDescriptor y.desc = some sig → argsL.length = sig.parameters.length)
    (hstack : g.stack = argsL.reverse ++ .ref b :: rest) (hW : 2 * g.monitorRoom + (rest.map fun v => v.category).sum ≤ W9) (hdg : decode c.code g.pc = .ok (.invokevirtual index, 3))
    (hpre : ∀ vm₁, s.WarmedH vm₁ → Pre ⟨T.setVm vm₁, locs, cells, slots⟩ (Value.ref b :: argsL).toArray) :
    (∃ (v : Option Value) (vm₁ : Vm) (B : Pt), s.WarmedH vm₁ ∧ Stand p l e R s m args below meth c B.U B.locs B.cells B.slots ∧ Post ⟨T.setVm vm₁, locs, cells, slots⟩ (Value.ref b :: argsL).toArray v B ∧
      ∀ target, Steps p.tables e below (B.U.setTop { g with pc := g.pc + 3, stack := v.toList ++ rest }) target → Steps p.tables e below (T.setTop g) target) ∨
    (∃ (q : Addr) (vm₁ : Vm) (B : Pt), s.WarmedH vm₁ ∧ Stand p l e R s m args below meth c B.U B.locs B.cells B.slots ∧ PostX ⟨T.setVm vm₁, locs, cells, slots⟩ (Value.ref b :: argsL).toArray q B ∧
      Steps p.tables e below (T.setTop g) ((B.U.setTop { g with stack := rest }).pushFrame (.throwing q))) := by
  obtain ⟨mk, methM, hnamed, hmethM, hstM, habM⟩ := Cond.instanceMethod_spec hinst
  obtain ⟨methM', cM, hmethM', -, -, -, -, -, -, hsigM⟩ := Cond.code_spec hnamed hcode
  cases hmethM.symm.trans hmethM'
  obtain ⟨c2, r2, m2, q1, q2, q3, q4, kP, hkP, hkPi⟩ := Cond.selects_spec hsel
  cases hcls.symm.trans q1
  cases (State.methodFound?_of_named hnamed hy).symm.trans q2
  cases hnamed.symm.trans q3
  have hselP : selectMethod e.platform s.vm cellB.cls mk = .method mk := by rw [Launch.admits_selectMethod X.admits]; exact q4
  obtain ⟨vm₁, X₁, hstep₁⟩ := X.invokevirtual hexec hown hlink hnamed hmethM hstM hkP hkPi hy (a := b) (cell := cellB) hcell
    (fun z h => by rw [h] at hobj; cases hobj) hselP hmethM habM hkP hkPi (g := g) hg (argsL := argsL) (rest := rest) (hlen _ hsigM) hstack hdg
  rcases hK m meth c ⟨T.setVm vm₁, locs, cells, slots⟩ { g with stack := rest } (.invokevirtual index) mk (Value.ref b :: argsL).toArray X₁ hg hsize hdg hW (X₁.named hnamed) (hpre vm₁ X₁.warmed) with ⟨v, B, X', hpost, hsteps⟩ | ⟨q, B, X', hpost, hsteps⟩
  · exact Or.inl ⟨v, vm₁, B, X₁.warmed, X', hpost, fun target h => hstep₁ _ fun acts => by rw [doInvoke_state]; exact hsteps.trans h⟩
  · exact Or.inr ⟨q, vm₁, B, X₁.warmed, X', hpost, hstep₁ _ fun acts => by rw [doInvoke_state]; exact hsteps⟩
theorem vx_callS (X : Stand p l e R s m args below meth c T locs cells slots) (hexec : p.tables.exec = Jvm.exec) {own : String} {index : Nat} {y : MethodName} {bytes : ByteArray} {maxL : Nat} {ret : Option FieldType}
    (hown : s.vm.findClass own = some m.cls) (hlink : (Cond.methodLink own index y).before args s = true) (hstat : (Cond.static y).before args s = true) (hinit : (Cond.initialized y.cls).before args s = true)
    (hcode : (Cond.code y bytes maxL ret).before args s = true) (hy : y.cls ≠ "java/lang/invoke/MethodHandle" ∧ y.cls ≠ "java/lang/invoke/VarHandle")
    {W9 : Nat} {Pre : Pt → Array Value → Prop} {Post : Pt → Array Value → Option Value → Pt → Prop} {PostX : Pt → Array Value → Addr → Pt → Prop} (hK : vx_Back l R p e below s args y 3 W9 Pre Post PostX)
    {g : JFrame} (hg : g.method = m) (hsize : g.locals.size = c.maxLocals) {argsL rest : List Value} (hlen : ∀ sig, parseMethodDescriptor y.desc = some sig → argsL.length = sig.parameters.length)
    (hstack : g.stack = argsL.reverse ++ rest) (hW : 2 * g.monitorRoom + (rest.map fun v => v.category).sum ≤ W9) (hdg : decode c.code g.pc = .ok (.invokestatic index, 3))
    (hpre : ∀ vm₁, s.WarmedH vm₁ → Pre ⟨T.setVm vm₁, locs, cells, slots⟩ argsL.toArray) :
    (∃ (v : Option Value) (vm₁ : Vm) (B : Pt), s.WarmedH vm₁ ∧ Stand p l e R s m args below meth c B.U B.locs B.cells B.slots ∧ Post ⟨T.setVm vm₁, locs, cells, slots⟩ argsL.toArray v B ∧
      ∀ target, Steps p.tables e below (B.U.setTop { g with pc := g.pc + 3, stack := v.toList ++ rest }) target → Steps p.tables e below (T.setTop g) target) ∨
    (∃ (q : Addr) (vm₁ : Vm) (B : Pt), s.WarmedH vm₁ ∧ Stand p l e R s m args below meth c B.U B.locs B.cells B.slots ∧ PostX ⟨T.setVm vm₁, locs, cells, slots⟩ argsL.toArray q B ∧
      Steps p.tables e below (T.setTop g) ((B.U.setTop { g with stack := rest }).pushFrame (.throwing q))) := by
  obtain ⟨mk, hnamed⟩ := Cond.code_named hcode
  obtain ⟨methM, cM, hmethM, -, -, -, -, -, -, hsigM⟩ := Cond.code_spec hnamed hcode
  have hstatic : methM.isStatic = true := Cond.static_spec hnamed hmethM hstat
  obtain ⟨kP, hkP, -⟩ := className_of_methodNamed hnamed
  have hinitP : kP.init = .initialized := Cond.initialized_spec (findClass_of_methodNamed hnamed) hkP hinit
  obtain ⟨vm₁, X₁, hstep₁⟩ := X.invokestatic hexec hown hlink hnamed hmethM hstatic hkP hinitP hy (g := g) hg (argsL := argsL) (rest := rest) (hlen _ hsigM) hstack hdg
  rcases hK m meth c ⟨T.setVm vm₁, locs, cells, slots⟩ { g with stack := rest } (.invokestatic index) mk argsL.toArray X₁ hg hsize hdg hW (X₁.named hnamed) (hpre vm₁ X₁.warmed) with ⟨v, B, X', hpost, hsteps⟩ | ⟨q, B, X', hpost, hsteps⟩
  · exact Or.inl ⟨v, vm₁, B, X₁.warmed, X', hpost, fun target h => hstep₁ _ fun acts => by rw [doInvoke_state]; exact hsteps.trans h⟩
  · exact Or.inr ⟨q, vm₁, B, X₁.warmed, X', hpost, hstep₁ _ fun acts => by rw [doInvoke_state]; exact hsteps⟩
end Calls
theorem vx_cls {s : State} {T : State} {vm₁ : Vm} {E : String} {k : ClassId} (hW : s.WarmedH vm₁) (h : (T.setVm vm₁).vm.findClass E = some k) : s.vm.findClass E = some k := by
  have h1 : vm₁.findClass E = some k := h
  rw [hW.alike.findClass] at h1
  exact h1
/-- the method's frame g, with q thrown over it -/
def vx_W (p : Program) (l : Launch) (e : Env) (R : Room) (s : State) (m : MethodId) (args : Array Value) (below : List Frame) (meth : Method) (c : Code) (H : Heap) (locs : List Loc) (cells slots : Nat) (Q : State → Prop) (g : JFrame) (q : Addr) : Prop :=
  ∀ T : State, T.heap = H → Stand p l e R s m args below meth c T locs cells slots → ∃ t, Steps p.tables e below ((T.setTop g).pushFrame (.throwing q)) t ∧ Q t
def vx_Run (p : Program) (l : Launch) (e : Env) (R : Room) (s : State) (m : MethodId) (args : Array Value) (below : List Frame) (meth : Method) (c : Code) (H : Heap) (locs : List Loc) (cells slots mc ms : Nat) (g : JFrame) (rest : List Value) (Qa : State → Outcome → State → Prop) (XC : String → State → State → Prop) (free : Addr → Prop) : Prop :=
  ∀ T : State, T.heap = H → Stand p l e R s m args below meth c T locs cells slots →
    (∃ (v : Option Value) (st₀ t T' : State) (L : List Loc), st₀.heap = H ∧ Stand p l e R s m args below meth c T' (locs ++ L) (cells + mc) (slots + ms) ∧ (∀ q ∈ L, free q.base) ∧ T'.heap = t.heap ∧ T'.vm = t.vm ∧ Qa st₀ (.returned v) t ∧
      Goes p e below T g T' { g with pc := g.pc + 3, stack := v.toList ++ rest }) ∨
    (∃ (q : Addr) (st₀ t T' : State) (L : List Loc) (E : String) (ce : Cell), st₀.heap = H ∧ Stand p l e R s m args below meth c T' (locs ++ L) (cells + mc) (slots + ms) ∧ (∀ z ∈ L, free z.base) ∧ T'.heap = t.heap ∧ T'.vm = t.vm ∧ XC E st₀ t ∧ t.heap[q]? = some ce ∧ ce.vm = .none ∧ s.vm.findClass E = some ce.cls ∧
      Steps p.tables e below (T.setTop g) ((T'.setTop { g with stack := rest }).pushFrame (.throwing q)))
def vx_X {S : Type} (px : S → Prop) (B : String → S → State → Prop) (A : Nat → Prop) : String → State → State → Prop := fun E st t => ∃ u : S, px u ∧ B E u t ∧ va_F A st t
section Runs
variable {p : Program} {l : Launch} {e : Env} {R : Room} {s : State} {m : MethodId} {args : Array Value} {below : List Frame} {meth : Method} {c : Code} {H : Heap} {locs : List Loc} {cells slots : Nat}
variable {y : MethodName} {bytes cc : ByteArray} {maxL nL mc ms n index : Nat} {ret : Option FieldType} {ws : List Cond} {rm : Room} {Pc : Array Value → State → Prop} {Qc : Array Value → State → Outcome → State → Prop} {XC : String → State → State → Prop} {free : Addr → Prop} {Ts : List Cond} {own C : String} {b : Addr} {As rest : List Value} {g : JFrame}
theorem vx_callBack (cb : CallB R s args own index y bytes maxL ret ws rm mc ms n) (hM : vx_Met l y ws rm Pc Qc XC mc ms free) (hbl : FrameBlind Pc) : vx_Back l R p e below s args y 3 8 (PreOf R mc ms Pc) (PostOf Qc mc ms free) (vx_Post XC mc ms free) := by
  obtain ⟨hrc, hrs, hfr, hlo, hws, hcw, -, hini, -⟩ := cb
  exact vx_back (bytes := bytes) (maxL := maxL) (ret := ret) hM hbl hrc hrs hfr hlo hws hcw (fun a' U hW => word_at hW (Or.inl (by first | rfl | simp [Cond.onTables, Cond.keeps, Cond.steady])) hini)
theorem vx_runV (S : CallFix p m c cc nL s args Ts own) (hM : vx_Met l y ws rm Pc Qc XC mc ms free) (cw : CallW R s args own C index y bytes maxL ret ws rm mc ms n) (hp : PreV s H C b Pc As)
    (hg : g.method = m) (hn : As.length = n) (hsize : g.locals.size = nL) (hstack : g.stack = As.reverse ++ .ref b :: rest) (hW : 2 * g.monitorRoom + (rest.map fun v => v.category).sum ≤ 8) (hdg : decode cc g.pc = .ok (.invokevirtual index, 3)) (hf : cells + mc ≤ R.cells ∧ slots + ms ≤ R.slots) :
    vx_Run p l e R s m args below meth c H locs cells slots mc ms g rest (Qc (Value.ref b :: As).toArray) XC free := by
  have hK : vx_Back l R p e below s args y 3 8 (PreOf R mc ms Pc) (PostOf Qc mc ms free) (vx_Post XC mc ms free) := vx_callBack cw.1 hM hp.1
  obtain ⟨⟨-, -, -, -, -, -, hcode, -, hy, hlen, hl⟩, hin, hse⟩ := cw
  obtain ⟨hx, hb, hml, ho, -⟩ := S
  obtain ⟨-, ⟨cellB, hcB, hoB, hclB⟩, hPc⟩ := hp
  intro T hT X
  rcases vx_callV X hx (C := C) (bytes := bytes) (maxL := maxL) (ret := ret) ho hl hin hse hcode hy hK (by rw [hT]; exact hcB) hoB hclB hg (hsize.trans hml.symm) (argsL := As) (rest := rest) (fun sig h => hn.trans (hlen sig h)) hstack hW (by rw [hb]; exact hdg)
    (fun vm₁ hW₁ => ⟨hf.1, hf.2, hPc (T.setVm vm₁) hT hW₁⟩) with ⟨v, vm₁, ⟨U', l2, c2, s2⟩, hW₁, X', ⟨g', mk, t, L, e1, e2, hq, h1, hL, h2, h3⟩, st⟩ | ⟨q, vm₁, ⟨U', l2, c2, s2⟩, hW₁, X', ⟨g', mk, t, L, E, ce, e1, e2, hq, hce, hcv, hcl, h1, hL, h2, h3⟩, st⟩
  · dsimp only [Pt.U, Pt.locs, Pt.cells, Pt.slots] at X' e1 e2 h1 h2 h3 st
    subst h1; subst h2; subst h3
    exact Or.inl ⟨v, (T.setVm vm₁).calling g' mk (Value.ref b :: As).toArray, t, U', L, hT, X', hL, e1, e2, hq, st⟩
  · dsimp only [Pt.U, Pt.locs, Pt.cells, Pt.slots] at X' e1 e2 h1 h2 h3 st hcl
    subst h1; subst h2; subst h3
    exact Or.inr ⟨q, (T.setVm vm₁).calling g' mk (Value.ref b :: As).toArray, t, U', L, E, ce, hT, X', hL, e1, e2, hq, hce, hcv, vx_cls hW₁ hcl, st⟩
theorem vx_runS (S : CallFix p m c cc nL s args Ts own) (hM : vx_Met l y ws rm Pc Qc XC mc ms free) (cw : CallB R s args own index y bytes maxL ret ws rm mc ms n ∧ (Cond.static y).before args s = true) (hp : PreS s H Pc As)
    (hg : g.method = m) (hn : As.length = n) (hsize : g.locals.size = nL) (hstack : g.stack = As.reverse ++ rest) (hW : 2 * g.monitorRoom + (rest.map fun v => v.category).sum ≤ 8) (hdg : decode cc g.pc = .ok (.invokestatic index, 3)) (hf : cells + mc ≤ R.cells ∧ slots + ms ≤ R.slots) :
    vx_Run p l e R s m args below meth c H locs cells slots mc ms g rest (Qc As.toArray) XC free := by
  have hK : vx_Back l R p e below s args y 3 8 (PreOf R mc ms Pc) (PostOf Qc mc ms free) (vx_Post XC mc ms free) := vx_callBack cw.1 hM hp.1
  obtain ⟨⟨-, -, -, -, -, -, hcode, hini, hy, hlen, hl⟩, hstt⟩ := cw
  obtain ⟨hx, hb, hml, ho, -⟩ := S
  intro T hT X
  rcases vx_callS X hx (bytes := bytes) (maxL := maxL) (ret := ret) ho hl hstt hini hcode hy hK hg (hsize.trans hml.symm) (argsL := As) (rest := rest) (fun sig h => hn.trans (hlen sig h)) hstack hW (by rw [hb]; exact hdg)
    (fun vm₁ hW₁ => ⟨hf.1, hf.2, hp.2 (T.setVm vm₁) hT hW₁⟩) with ⟨v, vm₁, ⟨U', l2, c2, s2⟩, hW₁, X', ⟨g', mk, t, L, e1, e2, hq, h1, hL, h2, h3⟩, st⟩ | ⟨q, vm₁, ⟨U', l2, c2, s2⟩, hW₁, X', ⟨g', mk, t, L, E, ce, e1, e2, hq, hce, hcv, hcl, h1, hL, h2, h3⟩, st⟩
  · dsimp only [Pt.U, Pt.locs, Pt.cells, Pt.slots] at X' e1 e2 h1 h2 h3 st
    subst h1; subst h2; subst h3
    exact Or.inl ⟨v, (T.setVm vm₁).calling g' mk As.toArray, t, U', L, hT, X', hL, e1, e2, hq, st⟩
  · dsimp only [Pt.U, Pt.locs, Pt.cells, Pt.slots] at X' e1 e2 h1 h2 h3 st hcl
    subst h1; subst h2; subst h3
    exact Or.inr ⟨q, (T.setVm vm₁).calling g' mk As.toArray, t, U', L, E, ce, hT, X', hL, e1, e2, hq, hce, hcv, vx_cls hW₁ hcl, st⟩
end Runs
section Rows
variable {p : Program} {l : Launch} {e : Env} {R : Room} {s : State} {m : MethodId} {args : Array Value} {below : List Frame} {meth : Method} {c : Code} {H : Heap} {locs : List Loc} {cells slots : Nat} {Q : State → Prop}
variable {mc ms : Nat} {free : Addr → Prop} {A0 A1 : Nat → Prop} {H0 : Heap} {a : Array Value} {pc : Nat} {ls : Array Slot} {st0 rest : List Value}
theorem vx_keep {st₀ t T' : State} {L : List Loc} (h0 : st₀.heap = H) (e1 : T'.heap = t.heap) (hS : va_S A0 H0 H locs) (hA : ∀ q, q < H.size → A1 q → A0 q) (hf : ∀ q, free q → A0 q) (hL : ∀ q ∈ L, free q.base) (hF : va_F A1 st₀ t) :
    H.size ≤ T'.heap.size ∧ (∀ q : Nat, q < H.size → ¬ A1 q → T'.heap[q]? = H[q]?) ∧ va_S A0 H0 T'.heap (locs ++ L) := by
  obtain ⟨hz, hk⟩ := hF
  rw [h0] at hz hk
  exact ⟨by rw [e1]; exact hz, fun q h1 h2 => by rw [e1]; exact hk q h1 h2,
    ⟨Nat.le_trans hS.1 (by rw [e1]; exact hz), fun q h1 h2 => by rw [e1, hk q (Nat.lt_of_lt_of_le h1 hS.1) (fun z => h2 (hA q (Nat.lt_of_lt_of_le h1 hS.1) z))]; exact hS.2.1 q h1 h2, fun q hq => by
      rcases List.mem_append.mp hq with h | h
      · exact hS.2.2 q h
      · exact hf _ (hL q h)⟩⟩
theorem vx_calli {S SX : Type} {post : Int32 → S → Prop} {px : SX → Prop} {B : S → State → Prop} {BX : String → SX → State → Prop} {AX : Nat → Prop} (hr : vx_Run p l e R s m args below meth c H locs cells slots mc ms (F0 m pc ls st0) rest (va_Qi post B A1 a) (vx_X px BX AX) free) (hS : va_S A0 H0 H locs) (hA : ∀ q, q < H.size → A1 q → A0 q) (hf : ∀ q, free q → A0 q) (hAX : ∀ q, q < H.size → AX q → A0 q)
    (kx : ∀ (E : String) (ce : Cell) (q9 : Addr) (u : SX) (t : State) (H1 : Heap) (locs1 : List Loc), t.heap = H1 → s.vm.Alike t.vm → px u → BX E u t → H.size ≤ H1.size → (∀ q : Nat, q < H.size → ¬ AX q → H1[q]? = H[q]?) → va_S A0 H0 H1 locs1 → H1[q9]? = some ce → ce.vm = .none → s.vm.findClass E = some ce.cls → vx_W p l e R s m args below meth c H1 locs1 (cells + mc) (slots + ms) Q (F0 m pc ls rest) q9)
    (kk : ∀ (r : Int32) (u : S) (t : State) (H1 : Heap) (locs1 : List Loc), t.heap = H1 → s.vm.Alike t.vm → post r u → B u t → H.size ≤ H1.size → (∀ q : Nat, q < H.size → ¬ A1 q → H1[q]? = H[q]?) → va_S A0 H0 H1 locs1 → W p l e R s m args below meth c H1 locs1 (cells + mc) (slots + ms) Q (F0 m (pc + 3) ls (.int r :: rest))) : W p l e R s m args below meth c H locs cells slots Q (F0 m pc ls st0) := by
  intro T hT X
  rcases hr T hT X with ⟨v, st₀, t, T', L, h0, X', hL, e1, e2, ⟨⟨r, u, hv, hp, hb⟩, hF⟩, st⟩ | ⟨q, st₀, t, T', L, E, ce, h0, X', hL, e1, e2, ⟨u, hp, hb, hF⟩, hce, hcv, hcl, st⟩
  · cases hv
    obtain ⟨k1, k2, k3⟩ := vx_keep h0 e1 hS hA hf hL hF
    obtain ⟨t2, a1, b1⟩ := kk r u t T'.heap (locs ++ L) e1.symm (by rw [← e2]; exact X'.warmed.alike) hp hb k1 k2 k3 T' rfl X'
    exact ⟨t2, st t2 a1, b1⟩
  · obtain ⟨k1, k2, k3⟩ := vx_keep h0 e1 hS hAX hf hL hF
    obtain ⟨t2, a1, b1⟩ := kx E ce q u t T'.heap (locs ++ L) e1.symm (by rw [← e2]; exact X'.warmed.alike) hp hb k1 k2 k3 (by rw [e1]; exact hce) hcv hcl T' rfl X'
    exact ⟨t2, st.trans a1, b1⟩
theorem vx_calll {S SX : Type} {post : Int64 → S → Prop} {px : SX → Prop} {B : S → State → Prop} {BX : String → SX → State → Prop} {AX : Nat → Prop} (hr : vx_Run p l e R s m args below meth c H locs cells slots mc ms (F0 m pc ls st0) rest (va_Ql post B A1 a) (vx_X px BX AX) free) (hS : va_S A0 H0 H locs) (hA : ∀ q, q < H.size → A1 q → A0 q) (hf : ∀ q, free q → A0 q) (hAX : ∀ q, q < H.size → AX q → A0 q)
    (kx : ∀ (E : String) (ce : Cell) (q9 : Addr) (u : SX) (t : State) (H1 : Heap) (locs1 : List Loc), t.heap = H1 → s.vm.Alike t.vm → px u → BX E u t → H.size ≤ H1.size → (∀ q : Nat, q < H.size → ¬ AX q → H1[q]? = H[q]?) → va_S A0 H0 H1 locs1 → H1[q9]? = some ce → ce.vm = .none → s.vm.findClass E = some ce.cls → vx_W p l e R s m args below meth c H1 locs1 (cells + mc) (slots + ms) Q (F0 m pc ls rest) q9)
    (kk : ∀ (r : Int64) (u : S) (t : State) (H1 : Heap) (locs1 : List Loc), t.heap = H1 → s.vm.Alike t.vm → post r u → B u t → H.size ≤ H1.size → (∀ q : Nat, q < H.size → ¬ A1 q → H1[q]? = H[q]?) → va_S A0 H0 H1 locs1 → W p l e R s m args below meth c H1 locs1 (cells + mc) (slots + ms) Q (F0 m (pc + 3) ls (.long r :: rest))) : W p l e R s m args below meth c H locs cells slots Q (F0 m pc ls st0) := by
  intro T hT X
  rcases hr T hT X with ⟨v, st₀, t, T', L, h0, X', hL, e1, e2, ⟨⟨r, u, hv, hp, hb⟩, hF⟩, st⟩ | ⟨q, st₀, t, T', L, E, ce, h0, X', hL, e1, e2, ⟨u, hp, hb, hF⟩, hce, hcv, hcl, st⟩
  · cases hv
    obtain ⟨k1, k2, k3⟩ := vx_keep h0 e1 hS hA hf hL hF
    obtain ⟨t2, a1, b1⟩ := kk r u t T'.heap (locs ++ L) e1.symm (by rw [← e2]; exact X'.warmed.alike) hp hb k1 k2 k3 T' rfl X'
    exact ⟨t2, st t2 a1, b1⟩
  · obtain ⟨k1, k2, k3⟩ := vx_keep h0 e1 hS hAX hf hL hF
    obtain ⟨t2, a1, b1⟩ := kx E ce q u t T'.heap (locs ++ L) e1.symm (by rw [← e2]; exact X'.warmed.alike) hp hb k1 k2 k3 (by rw [e1]; exact hce) hcv hcl T' rfl X'
    exact ⟨t2, st.trans a1, b1⟩
theorem vx_callf {S SX : Type} {post : UInt32 → S → Prop} {px : SX → Prop} {B : S → State → Prop} {BX : String → SX → State → Prop} {AX : Nat → Prop} (hr : vx_Run p l e R s m args below meth c H locs cells slots mc ms (F0 m pc ls st0) rest (va_Qf post B A1 a) (vx_X px BX AX) free) (hS : va_S A0 H0 H locs) (hA : ∀ q, q < H.size → A1 q → A0 q) (hf : ∀ q, free q → A0 q) (hAX : ∀ q, q < H.size → AX q → A0 q)
    (kx : ∀ (E : String) (ce : Cell) (q9 : Addr) (u : SX) (t : State) (H1 : Heap) (locs1 : List Loc), t.heap = H1 → s.vm.Alike t.vm → px u → BX E u t → H.size ≤ H1.size → (∀ q : Nat, q < H.size → ¬ AX q → H1[q]? = H[q]?) → va_S A0 H0 H1 locs1 → H1[q9]? = some ce → ce.vm = .none → s.vm.findClass E = some ce.cls → vx_W p l e R s m args below meth c H1 locs1 (cells + mc) (slots + ms) Q (F0 m pc ls rest) q9)
    (kk : ∀ (r : UInt32) (u : S) (t : State) (H1 : Heap) (locs1 : List Loc), t.heap = H1 → s.vm.Alike t.vm → post r u → B u t → H.size ≤ H1.size → (∀ q : Nat, q < H.size → ¬ A1 q → H1[q]? = H[q]?) → va_S A0 H0 H1 locs1 → W p l e R s m args below meth c H1 locs1 (cells + mc) (slots + ms) Q (F0 m (pc + 3) ls (.float r :: rest))) : W p l e R s m args below meth c H locs cells slots Q (F0 m pc ls st0) := by
  intro T hT X
  rcases hr T hT X with ⟨v, st₀, t, T', L, h0, X', hL, e1, e2, ⟨⟨r, u, hv, hp, hb⟩, hF⟩, st⟩ | ⟨q, st₀, t, T', L, E, ce, h0, X', hL, e1, e2, ⟨u, hp, hb, hF⟩, hce, hcv, hcl, st⟩
  · cases hv
    obtain ⟨k1, k2, k3⟩ := vx_keep h0 e1 hS hA hf hL hF
    obtain ⟨t2, a1, b1⟩ := kk r u t T'.heap (locs ++ L) e1.symm (by rw [← e2]; exact X'.warmed.alike) hp hb k1 k2 k3 T' rfl X'
    exact ⟨t2, st t2 a1, b1⟩
  · obtain ⟨k1, k2, k3⟩ := vx_keep h0 e1 hS hAX hf hL hF
    obtain ⟨t2, a1, b1⟩ := kx E ce q u t T'.heap (locs ++ L) e1.symm (by rw [← e2]; exact X'.warmed.alike) hp hb k1 k2 k3 (by rw [e1]; exact hce) hcv hcl T' rfl X'
    exact ⟨t2, st.trans a1, b1⟩
theorem vx_calld {S SX : Type} {post : UInt64 → S → Prop} {px : SX → Prop} {B : S → State → Prop} {BX : String → SX → State → Prop} {AX : Nat → Prop} (hr : vx_Run p l e R s m args below meth c H locs cells slots mc ms (F0 m pc ls st0) rest (va_Qd post B A1 a) (vx_X px BX AX) free) (hS : va_S A0 H0 H locs) (hA : ∀ q, q < H.size → A1 q → A0 q) (hf : ∀ q, free q → A0 q) (hAX : ∀ q, q < H.size → AX q → A0 q)
    (kx : ∀ (E : String) (ce : Cell) (q9 : Addr) (u : SX) (t : State) (H1 : Heap) (locs1 : List Loc), t.heap = H1 → s.vm.Alike t.vm → px u → BX E u t → H.size ≤ H1.size → (∀ q : Nat, q < H.size → ¬ AX q → H1[q]? = H[q]?) → va_S A0 H0 H1 locs1 → H1[q9]? = some ce → ce.vm = .none → s.vm.findClass E = some ce.cls → vx_W p l e R s m args below meth c H1 locs1 (cells + mc) (slots + ms) Q (F0 m pc ls rest) q9)
    (kk : ∀ (r : UInt64) (u : S) (t : State) (H1 : Heap) (locs1 : List Loc), t.heap = H1 → s.vm.Alike t.vm → post r u → B u t → H.size ≤ H1.size → (∀ q : Nat, q < H.size → ¬ A1 q → H1[q]? = H[q]?) → va_S A0 H0 H1 locs1 → W p l e R s m args below meth c H1 locs1 (cells + mc) (slots + ms) Q (F0 m (pc + 3) ls (.double r :: rest))) : W p l e R s m args below meth c H locs cells slots Q (F0 m pc ls st0) := by
  intro T hT X
  rcases hr T hT X with ⟨v, st₀, t, T', L, h0, X', hL, e1, e2, ⟨⟨r, u, hv, hp, hb⟩, hF⟩, st⟩ | ⟨q, st₀, t, T', L, E, ce, h0, X', hL, e1, e2, ⟨u, hp, hb, hF⟩, hce, hcv, hcl, st⟩
  · cases hv
    obtain ⟨k1, k2, k3⟩ := vx_keep h0 e1 hS hA hf hL hF
    obtain ⟨t2, a1, b1⟩ := kk r u t T'.heap (locs ++ L) e1.symm (by rw [← e2]; exact X'.warmed.alike) hp hb k1 k2 k3 T' rfl X'
    exact ⟨t2, st t2 a1, b1⟩
  · obtain ⟨k1, k2, k3⟩ := vx_keep h0 e1 hS hAX hf hL hF
    obtain ⟨t2, a1, b1⟩ := kx E ce q u t T'.heap (locs ++ L) e1.symm (by rw [← e2]; exact X'.warmed.alike) hp hb k1 k2 k3 (by rw [e1]; exact hce) hcv hcl T' rfl X'
    exact ⟨t2, st.trans a1, b1⟩
theorem vx_callv {S SX : Type} {post : S → Prop} {px : SX → Prop} {B : S → State → Prop} {BX : String → SX → State → Prop} {AX : Nat → Prop} (hr : vx_Run p l e R s m args below meth c H locs cells slots mc ms (F0 m pc ls st0) rest (va_Qv post B A1 a) (vx_X px BX AX) free) (hS : va_S A0 H0 H locs) (hA : ∀ q, q < H.size → A1 q → A0 q) (hf : ∀ q, free q → A0 q) (hAX : ∀ q, q < H.size → AX q → A0 q)
    (kx : ∀ (E : String) (ce : Cell) (q9 : Addr) (u : SX) (t : State) (H1 : Heap) (locs1 : List Loc), t.heap = H1 → s.vm.Alike t.vm → px u → BX E u t → H.size ≤ H1.size → (∀ q : Nat, q < H.size → ¬ AX q → H1[q]? = H[q]?) → va_S A0 H0 H1 locs1 → H1[q9]? = some ce → ce.vm = .none → s.vm.findClass E = some ce.cls → vx_W p l e R s m args below meth c H1 locs1 (cells + mc) (slots + ms) Q (F0 m pc ls rest) q9)
    (kk : ∀ (u : S) (t : State) (H1 : Heap) (locs1 : List Loc), t.heap = H1 → s.vm.Alike t.vm → post u → B u t → H.size ≤ H1.size → (∀ q : Nat, q < H.size → ¬ A1 q → H1[q]? = H[q]?) → va_S A0 H0 H1 locs1 → W p l e R s m args below meth c H1 locs1 (cells + mc) (slots + ms) Q (F0 m (pc + 3) ls (rest))) : W p l e R s m args below meth c H locs cells slots Q (F0 m pc ls st0) := by
  intro T hT X
  rcases hr T hT X with ⟨v, st₀, t, T', L, h0, X', hL, e1, e2, ⟨⟨u, hv, hp, hb⟩, hF⟩, st⟩ | ⟨q, st₀, t, T', L, E, ce, h0, X', hL, e1, e2, ⟨u, hp, hb, hF⟩, hce, hcv, hcl, st⟩
  · cases hv
    obtain ⟨k1, k2, k3⟩ := vx_keep h0 e1 hS hA hf hL hF
    obtain ⟨t2, a1, b1⟩ := kk u t T'.heap (locs ++ L) e1.symm (by rw [← e2]; exact X'.warmed.alike) hp hb k1 k2 k3 T' rfl X'
    exact ⟨t2, st t2 a1, b1⟩
  · obtain ⟨k1, k2, k3⟩ := vx_keep h0 e1 hS hAX hf hL hF
    obtain ⟨t2, a1, b1⟩ := kx E ce q u t T'.heap (locs ++ L) e1.symm (by rw [← e2]; exact X'.warmed.alike) hp hb k1 k2 k3 (by rw [e1]; exact hce) hcv hcl T' rfl X'
    exact ⟨t2, st.trans a1, b1⟩
/-- caught by the row x of this method's table; the rows ahead don't take it -/
theorem vx_catch {own name : String} {E : String} {ce : Cell} {q : Addr} (hown : s.vm.findClass own = some m.cls) (pre : List ExceptionTableEntry) (x : ExceptionTableEntry) (suf : List ExceptionTableEntry) (hsplit : c.exceptionTable.toList = pre ++ x :: suf)
    (hpass : ∀ z ∈ pre, covers z pc = false ∨ (z.catchType ≠ 0 ∧ ∃ nm : String, (Cond.classLink own z.catchType nm).before args s = true ∧ va_Nc E nm s)) (hx : covers x pc = true) (h0 : x.catchType ≠ 0)
    (hlink : (Cond.classLink own x.catchType name).before args s = true) (hcast : (Cond.castable E name).before args s = true) (hcell : H[q]? = some ce) (hv : ce.vm = .none) (hcl : s.vm.findClass E = some ce.cls)
    (kk : W p l e R s m args below meth c H locs cells slots Q (F0 m x.handlerPc ls [.ref q])) : vx_W p l e R s m args below meth c H locs cells slots Q (F0 m pc ls rest) q := by
  intro T hT X
  have hpl : e.platform.magicAccessors = ({} : Platform).magicAccessors := by rw [X.admits.platform]
  obtain ⟨c3, c4, hc3, hc4, hasg⟩ := Cond.castable_spec hcast
  cases Option.some.inj (hc3.symm.trans hcl)
  obtain ⟨c5, hc5, hcl5⟩ := Cond.classLink_spec hown hlink e.platform hpl
  cases Option.some.inj (hc4.symm.trans hc5)
  obtain ⟨vm', X', st⟩ := X.thenCaughtThrough q (g := F0 m pc ls rest) rfl (Steps.refl _) (by rw [hT]; exact hcell) (by rw [hv]; rfl) (by obtain ⟨k9, h9, -⟩ := Vm.findClass_spec hcl; exact ⟨k9, h9⟩) pre x suf hsplit
    (fun z hz => by
      rcases hpass z hz with h | ⟨hz0, nm, hl1, hn1⟩
      · exact Or.inl h
      · obtain ⟨c6, hc6, hcl6⟩ := Cond.classLink_spec hown hl1 e.platform hpl
        obtain ⟨a8, b8, h1, h2, h3⟩ := hn1
        cases Option.some.inj (h1.symm.trans hcl)
        cases Option.some.inj (h2.symm.trans hc6)
        exact Or.inr ⟨hz0, _, hcl6, h3⟩) hx (Or.inr ⟨h0, c4, hcl5, hasg⟩)
  obtain ⟨t, a1, b1⟩ := kk (T.setVm vm') hT X'
  exact ⟨t, st.trans a1, b1⟩
end Rows
section Ends
variable {p : Program} {l : Launch} {e : Env} {R : Room} {s : State} {m : MethodId} {args : Array Value} {below : List Frame} {meth : Method} {c : Code} {H : Heap} {locs : List Loc} {cells slots : Nat} {Q : State → Prop}
variable {mc ms : Nat} {free : Addr → Prop} {A0 A1 : Nat → Prop} {H0 : Heap} {a : Array Value} {ls : Array Slot} {st0 rest : List Value}
variable {Qc : Array Value → State → Outcome → State → Prop} {XC : String → State → State → Prop}
/-- what a body that may throw owes at its end -/
def vx_MQ (below : List Frame) (Qc : Array Value → State → Outcome → State → Prop) (XC : String → State → State → Prop) (a : Array Value) (s : State) (mc ms : Nat) (free : Addr → Prop) : State → Prop := fun t =>
  ∃ o, t.status = .running ∧ Ended t below o ∧ vx_Q Qc XC mc ms free a s o t
theorem vx_ret {g : JFrame} {mc ms : Nat} (k : W p l e R s m args below meth c H locs cells slots (MQ below Qc args s mc ms free) g) : W p l e R s m args below meth c H locs cells slots (vx_MQ below Qc XC args s mc ms free) g := by
  intro T hT X
  obtain ⟨t, a1, o, b1, b2, b3, b4⟩ := k T hT X
  exact ⟨t, a1, o, b1, b2, Or.inl ⟨b3, b4⟩⟩
/-- not caught here: it goes on to the caller -/
theorem vx_widen {g : JFrame} {q : Addr} {k n : Nat} (h1 : cells ≤ k) (h2 : slots ≤ n) (kk : vx_W p l e R s m args below meth c H locs k n Q g q) : vx_W p l e R s m args below meth c H locs cells slots Q g q := fun T hT X => kk T hT (stand_widen X h1 h2)
theorem vx_out {pc : Nat} {E : String} {ce : Cell} {q : Addr} {mc ms : Nat} (hout : ∀ x ∈ c.exceptionTable.toList, covers x pc = false) (hlocks : meth.locks = false) (hcell : H[q]? = some ce) (hv : ce.vm = .none) (hcl : s.vm.findClass E = some ce.cls)
    (hx : ∀ t : State, t.heap = H → s.vm.Alike t.vm → XC E s t) (hf : ∀ z ∈ locs, free z.base) (hc : cells ≤ mc) (hs : slots ≤ ms) :
    vx_W p l e R s m args below meth c H locs cells slots (vx_MQ below Qc XC args s mc ms free) (F0 m pc ls rest) q := by
  intro T hT X
  obtain ⟨st1, hrun, hend, hW, hsm⟩ := X.leaveThrown q (g := F0 m pc ls rest) rfl rfl rfl hout hlocks
  have hcell9 : (T.setFrames (.throwing q :: below)).heap[q]? = some ce := by
    show T.heap[q]? = some ce
    rw [hT]; exact hcell
  exact ⟨_, st1, .threw q, hrun, hend, Or.inr ⟨q, rfl, E, ce, locs, hx _ hT hW.alike, hcell9, hv, hcl, hW, hsm.mono hc hs, hf⟩⟩
theorem vx_frame {U : State} {k n : Nat} (h : s.sameButNew ({ U with vm := s.vm } : State) locs k n) : s.heap.size ≤ U.heap.size ∧ ∀ q : Nat, q < s.heap.size → (∀ z ∈ locs, z.base ≠ q) → U.heap[q]? = s.heap[q]? := by
  obtain ⟨-, h2, -, -, -, h6⟩ := h
  refine ⟨h2, fun q hq hz => ?_⟩
  obtain ⟨c9, e1, e2, e3, e4⟩ := h6 q _ (Array.getElem?_eq_getElem hq)
  have hs : c9.slots = (s.heap[q]).slots := Array.ext_getElem? fun i => e4 i fun hm => hz _ hm rfl
  have h9 : c9 = s.heap[q] := by
    rw [hs] at e2
    exact e2
  have e5 : U.heap[q]? = some c9 := e1
  rw [e5, h9, Array.getElem?_eq_getElem hq]
/-- the words of a throw but the four that speak of the heap -/
def vx_no (w : Cond) : Bool := decide (w ≠ .isRef (.static Bundle.tN "UNASSIGNED_STACK" Bundle.steD)) && decide (w ≠ .isRef (.static Bundle.tN "SUPPRESSED_SENTINEL" Bundle.listD)) && decide (w ≠ .laysStatic Bundle.tN "UNASSIGNED_STACK" Bundle.steD) && decide (w ≠ .laysStatic Bundle.tN "SUPPRESSED_SENTINEL" Bundle.listD)
def vx_at0 (own : String) (ic : Nat) (X : String) (names : List String) : List Cond := (Bundle.ownAtoms0 own ic X names).filter vx_no
def vx_atS (own : String) (ic : Nat) (X : String) (names : List String) : List Cond := (Bundle.ownAtoms own ic X names).filter vx_no
/-- a word that the tables alone decide, or a good one -/
def vx_ot (w : Cond) : Bool := w.onTables || goodWord w
theorem vx_ot_at {args a' : Array Value} {s U : State} {w : Cond} (hW : s.WarmedH U.vm) (hvm : s.vm = U.vm) (hg : vx_ot w = true) (h : w.before args s = true) : w.before a' U = true := by
  simp only [vx_ot, Bool.or_eq_true] at hg
  rcases hg with hg | hg
  · exact va_tabs hg hvm h
  · exact word_at hW (good_of_word hg) h
/-- a list's words: the good ones out of the method's own list, the others by premises of their own -/
theorem vx_hat {args : Array Value} {s : State} {L B : List Cond} (h1 : ∀ w ∈ L.filter goodWord, w.before args s = true) (h2 : ∀ w ∈ L.filter (fun w => !goodWord w), w ∈ B) (h3 : ∀ w ∈ B, w.before args s = true) : ∀ w ∈ L, w.before args s = true := by
  intro w hw
  by_cases g : goodWord w = true
  · exact h1 w (List.mem_filter.mpr ⟨hw, g⟩)
  · refine h3 w (h2 w (List.mem_filter.mpr ⟨hw, ?_⟩))
    show (!goodWord w) = true
    cases hgw : goodWord w
    · rfl
    · exact absurd hgw g
theorem vx_c {args : Array Value} {s : State} {w : Cond} {B : List Cond} (h : w.before args s = true) (t : ∀ w ∈ B, w.before args s = true) : ∀ w' ∈ w :: B, w'.before args s = true := fun w' h' => (List.mem_cons.mp h').elim (fun e => by rw [e]; exact h) (t w')
theorem vx_n {args : Array Value} {s : State} : ∀ w ∈ ([] : List Cond), w.before args s = true := fun _ h => nomatch h
theorem vx_own {args : Array Value} {s : State} {L : List Cond} (h1 : ∀ w ∈ L.filter vx_no, w.before args s = true)
    (hU : (Cond.isRef (.static Bundle.tN "UNASSIGNED_STACK" Bundle.steD)).before args s = true) (hN : (Cond.isRef (.static Bundle.tN "SUPPRESSED_SENTINEL" Bundle.listD)).before args s = true)
    (lU : (Cond.laysStatic Bundle.tN "UNASSIGNED_STACK" Bundle.steD).before args s = true) (lN : (Cond.laysStatic Bundle.tN "SUPPRESSED_SENTINEL" Bundle.listD).before args s = true) : ∀ w ∈ L, w.before args s = true := by
  intro w hw
  by_cases e1 : w = .isRef (.static Bundle.tN "UNASSIGNED_STACK" Bundle.steD)
  · rw [e1]; exact hU
  · by_cases e2 : w = .isRef (.static Bundle.tN "SUPPRESSED_SENTINEL" Bundle.listD)
    · rw [e2]; exact hN
    · by_cases e3 : w = .laysStatic Bundle.tN "UNASSIGNED_STACK" Bundle.steD
      · rw [e3]; exact lU
      · by_cases e4 : w = .laysStatic Bundle.tN "SUPPRESSED_SENTINEL" Bundle.listD
        · rw [e4]; exact lN
        · exact h1 w (List.mem_filter.mpr ⟨hw, by unfold vx_no; rw [decide_eq_true e1, decide_eq_true e2, decide_eq_true e3, decide_eq_true e4]; rfl⟩)
/-- where a static field lies, its class's statics cell in H -/
def vx_L (C n d : String) (A : Nat → Prop) (U : State) (H : Heap) : Prop := ∃ (c : ClassId) (k : Class) (i : Nat) (f : Field) (a : Nat) (cell : Cell), U.vm.findClass C = some c ∧ U.fieldFound? C n d = some (c, k, i, f) ∧ f.isStatic = true ∧ k.statics = some a ∧ H[a]? = some cell ∧ cell.vm.isStatics = true ∧ cell.cls = c ∧ f.slot < cell.slots.size ∧ k.staticTypes[f.slot]? = some f.type ∧ ¬ A a
theorem vx_L.moved {C n d : String} {A : Nat → Prop} {u U : State} {H : Heap} (hvm : u.vm.Alike U.vm) (h : vx_L C n d A u H) : vx_L C n d A U H := by
  obtain ⟨c, k, i, f, a, cell, h1, h2, h3, h4, h5, h6, h7, h8, h9, h10⟩ := h
  obtain ⟨k', hi', he⟩ := State.fieldFound?_setVm hvm h2
  exact ⟨c, k', i, f, a, cell, by rw [hvm.findClass]; exact h1, hi', h3, by rw [he]; exact h4, h5, h6, h7, h8, by rw [he]; exact h9, h10⟩
theorem vx_L.kept {C n d : String} {A : Nat → Prop} {U : State} {H H1 : Heap} (h : vx_L C n d A U H) (hq : ∀ a : Nat, a < H.size → ¬ A a → H1[a]? = H[a]?) : vx_L C n d A U H1 := by
  obtain ⟨c, k, i, f, a, cell, h1, h2, h3, h4, h5, h6, h7, h8, h9, h10⟩ := h
  exact ⟨c, k, i, f, a, cell, h1, h2, h3, h4, by rw [hq a (Array.getElem?_eq_some_iff.mp h5).1 h10]; exact h5, h6, h7, h8, h9, h10⟩
theorem vx_L.narrow {C n d : String} {A B : Nat → Prop} {U : State} {H : Heap} (h : vx_L C n d A U H) (hAB : ∀ q, B q → A q) : vx_L C n d B U H := by
  obtain ⟨c, k, i, f, a, cell, h1, h2, h3, h4, h5, h6, h7, h8, h9, h10⟩ := h
  exact ⟨c, k, i, f, a, cell, h1, h2, h3, h4, h5, h6, h7, h8, h9, fun z => h10 (hAB _ z)⟩
theorem vx_L.word {C n d : String} {A : Nat → Prop} {s : State} {args : Array Value} (h : vx_L C n d A s s.heap) : (Cond.laysStatic C n d).before args s = true := by
  obtain ⟨c, k, i, f, a, cell, h1, h2, h3, h4, h5, h6, h7, h8, h9, -⟩ := h
  show (Cond.laysStatic C n d).holds args s none s [] = true
  exact Cond.laysStatic_of h1 h2 h3 h4 h5 h6 h7 h8 h9
/-- .. and what it holds: null or some reference -/
def vx_Zq (C n d : String) (A : Nat → Prop) (U : State) (H : Heap) : Prop := va_Zq C n d A U H ∧ vx_L C n d A U H
theorem vx_Zq.moved {C n d : String} {A : Nat → Prop} {u U : State} {H : Heap} (hvm : u.vm.Alike U.vm) (h : vx_Zq C n d A u H) : vx_Zq C n d A U H := ⟨va_Zq.moved hvm h.1, vx_L.moved hvm h.2⟩
theorem vx_Zq.kept {C n d : String} {A : Nat → Prop} {U : State} {H H1 : Heap} (h : vx_Zq C n d A U H) (hq : ∀ a : Nat, a < H.size → ¬ A a → H1[a]? = H[a]?) : vx_Zq C n d A U H1 := ⟨va_Zq.kept h.1 hq, vx_L.kept h.2 hq⟩
theorem vx_Zq.narrow {C n d : String} {A B : Nat → Prop} {U : State} {H : Heap} (h : vx_Zq C n d A U H) (hAB : ∀ q, B q → A q) : vx_Zq C n d B U H := ⟨va_Zq.narrow h.1 hAB, vx_L.narrow h.2 hAB⟩
theorem vx_Zqof {args : Array Value} {s : State} {C n d : String} {A : Nat → Prop} (hl : (Cond.laysStatic C n d).before args s = true) (hini : (Cond.initialized C).before args s = true) (h : (Cond.isRef (.static C n d)).before args s = true) (hA : ∀ a : Nat, a < s.heap.size → ¬ A a) : vx_Zq C n d A s s.heap := by
  refine ⟨va_Zqof hl hini h hA, ?_⟩
  obtain ⟨c, k, i, f, a, cell, h1, h2, h3, h4, h5, h6, h7, h8, h9⟩ := Cond.laysStatic_spec hl
  exact ⟨c, k, i, f, a, cell, h1, h2, h3, h4, h5, h6, h7, h8, h9, hA a (Array.getElem?_eq_some_iff.mp h5).1⟩
theorem vx_isRef {C n d : String} {v : Value} {A : Nat → Prop} {s : State} {args : Array Value} (h : va_Z C n d v A s s.heap) (hv : v.isRef = true) : (Cond.isRef (.static C n d)).before args s = true := by
  obtain ⟨cf, kf, fi, f, a, cell, h1, h2, h3, h4, h5, h6, h7, -⟩ := h
  have he : (Term.static C n d).eval args s none [] s = some v := by
    simp [Term.eval, State.fieldNamed?, h1, h2, h4, h5, h6, h7]
  simp only [Cond.before, Cond.holds, Cond.value, he]
  cases v <;> simp_all [Value.isRef]
theorem vx_isRefq {C n d : String} {A : Nat → Prop} {s : State} {args : Array Value} (h : va_Zq C n d A s s.heap) : (Cond.isRef (.static C n d)).before args s = true := by
  rcases h with h | ⟨t, h⟩
  · exact vx_isRef h rfl
  · exact vx_isRef h rfl
/-- the same frame, seen from here: as if the method were called anew in this heap -/
theorem vx_rebase {T : State} (X : Stand p l e R s m args below meth c T locs cells slots) {R' : Room} (hf : R'.frames ≤ R.frames) (hl : R'.locals ≤ R.locals) (hc : cells + R'.cells ≤ R.cells) (hs : slots + R'.slots ≤ R.slots) :
    Stand p l e R' ((T.setVm s.vm).setFrames (.invoking m args :: below)) m args below meth c T [] 0 0 := by
  have htop : (T.setVm s.vm).topJava?.isSome := X.here.top
  have hF : ((T.setVm s.vm).setFrames (.invoking m args :: below)).frames = .invoking m args :: below := State.frames_setFrames _ (State.cur_lt_of_top htop)
  obtain ⟨g₀, hg0⟩ := Option.isSome_iff_exists.mp htop
  obtain ⟨r, hr⟩ := State.topJava?_eq_some.mp hg0
  have hl9 : e.platform.stackLimits (T.setVm s.vm).me = e.platform.stackLimits s.me := X.limits
  have hb9 : (T.setVm s.vm).me.stackBytes = s.me.stackBytes := X.bytes
  refine ⟨X.admits, X.cas, X.clock, hF, ?_, X.hears, X.method, X.code, X.here, X.tail, X.warmed, ?_, ?_, ?_⟩
  · have h := X.room
    have hU : ((T.setVm s.vm).setFrames (.invoking m args :: below)).localsInUse = s.localsInUse := by
      rw [State.localsInUse_invoking hF (meth := meth) (c := c) X.method X.code, State.localsInUse_invoking X.frames X.method X.code]
    simp only [State.hasRoom, Bool.and_eq_true, decide_eq_true_eq] at h ⊢
    obtain ⟨⟨⟨⟨h1, h2, h3, h4, h5, h6⟩, h7⟩, h8⟩, h9⟩ := h
    rw [X.frames, List.length_cons] at h2 h3
    have q1 := X.heapSize
    have q2 := X.used
    simp only [hF, hU, List.length_cons, State.stackLimits_setFrames, State.stackBytes_setFrames, hl9, hb9]
    refine ⟨⟨⟨⟨by omega, by omega, by omega, by omega, by omega, h6⟩, ?_⟩, ?_⟩, X.book⟩
    · show T.heap.size + R'.cells ≤ e.platform.maxCells
      omega
    · show T.slotsUsed + R'.slots ≤ e.platform.maxSlots
      omega
  · rw [State.stackLimits_setFrames]; rfl
  · rw [State.stackBytes_setFrames]; rfl
  · refine ⟨?_, Nat.le_refl _, Nat.le_refl _, ?_, ?_, fun a c9 h9 => ⟨c9, h9, rfl, rfl, fun _ _ => rfl⟩⟩
    · obtain ⟨t, ht, -⟩ := State.frames_cons hr
      show T.setVm s.vm = { ((T.setVm s.vm).setFrames (.invoking m args :: below)).setFrames (T.setVm s.vm).frames with heap := T.heap, slotsUsed := T.slotsUsed }
      rw [State.setFrames_setFrames, State.setFrames_self ht]
      rfl
    · show T.slotsUsed = T.slotsUsed + ((T.heap.toList.drop T.heap.size).map (·.slots.size)).sum
      rw [List.drop_eq_nil_of_le (Nat.le_of_eq Array.length_toList)]
      rfl
    · show ((T.heap.toList.drop T.heap.size).map (·.slots.size)).sum ≤ 0
      rw [List.drop_eq_nil_of_le (Nat.le_of_eq Array.length_toList)]
      exact Nat.le_refl _
/-- 'throw new E()': new; dup; invokespecial; athrow -/
theorem vx_throw0 {cc : ByteArray} {pc : Nat} (hexec : p.tables.exec = Jvm.exec) (hb : c.code = cc) (hl : l.stackTraces = false) {own cls : String} {names : List String} {ik ic mc ms : Nat} {A : Nat → Prop}
    (hown : s.vm.findClass own = some m.cls) (hcls : Bundle.fit cls = true) (hnames : ∀ n ∈ names, Bundle.fit n = true)
    (hk : (Cond.classLink own ik cls).before args s = true) (hini : (Cond.initialized cls).before args s = true) (hat : ∀ w ∈ vx_at0 own ic cls names, w.before args s = true)
    (hgood : ∀ w ∈ Cond.classLink own ik cls :: Cond.initialized cls :: vx_at0 own ic cls names, vx_ot w = true)
    (hU : vx_Zq Bundle.tN "UNASSIGNED_STACK" Bundle.steD A s s.heap) (hN : vx_Zq Bundle.tN "SUPPRESSED_SENTINEL" Bundle.listD A s s.heap) (hS : va_S A s.heap H locs) (hsize : ls.size = c.maxLocals)
    (d0 : decode cc pc = .ok (.new ik, 3)) (d3 : decode cc (pc + 3) = .ok (.dup, 1)) (d4 : decode cc (pc + 4) = .ok (.invokespecial ic, 3)) (d7 : decode cc (pc + 7) = .ok (.athrow, 1))
    (hout : ∀ x ∈ c.exceptionTable.toList, covers x (pc + 7) = false)
    (hRframes : names.length + 3 < R.frames) (hRlocals : (rest.map fun v => v.category).sum + (13 * (names.length + 1) + 42) ≤ R.locals) (hRcells : cells + 1 ≤ R.cells) (hRslots : slots + 6 ≤ R.slots) (hlocks : meth.locks = false)
    (hx : ∀ t : State, s.vm.Alike t.vm → H.size ≤ t.heap.size → (∀ q : Nat, q < H.size → t.heap[q]? = H[q]?) → XC cls s t)
    (hf : ∀ z ∈ locs, free z.base) (hc : cells + 1 ≤ mc) (hs : slots + 6 ≤ ms) :
    W p l e R s m args below meth c H locs cells slots (vx_MQ below Qc XC args s mc ms free) (F0 m pc ls rest) := by
  intro T hT X
  have htr : e.platform.stackTraces = false := (show e.platform.stackTraces = l.stackTraces by rw [X.admits.platform]).trans hl
  have Y := vx_rebase X (R' := { frames := R.frames, locals := R.locals, cells := 1, slots := 6 }) (Nat.le_refl _) (Nat.le_refl _) hRcells hRslots
  obtain ⟨s', hA⟩ : ∃ z, z = (T.setVm s.vm).setFrames (.invoking m args :: below) := ⟨_, rfl⟩
  rw [← hA] at Y
  have hvm : s'.vm = s.vm := by rw [hA]; rfl
  have hhp : s'.heap = H := by rw [hA]; exact hT
  have hW0 : s.WarmedH s'.vm := by rw [hvm]; exact State.WarmedH.refl s
  have hat' : ∀ w ∈ vx_at0 own ic cls names, w.before args s' = true := fun w hw => vx_ot_at hW0 hvm.symm (hgood w (List.mem_cons_of_mem _ (List.mem_cons_of_mem _ hw))) (hat w hw)
  have hk' : (Cond.classLink own ik cls).before args s' = true := vx_ot_at hW0 hvm.symm (hgood _ List.mem_cons_self) hk
  have hini' : (Cond.initialized cls).before args s' = true := vx_ot_at hW0 hvm.symm (hgood _ (List.mem_cons_of_mem _ List.mem_cons_self)) hini
  have hU' : vx_Zq Bundle.tN "UNASSIGNED_STACK" Bundle.steD A s' s'.heap := by rw [hhp]; exact vx_Zq.moved hW0.alike (hU.kept hS.2.1)
  have hN' : vx_Zq Bundle.tN "SUPPRESSED_SENTINEL" Bundle.listD A s' s'.heap := by rw [hhp]; exact vx_Zq.moved hW0.alike (hN.kept hS.2.1)
  have h : ∀ w ∈ Bundle.ownAtoms0 own ic cls names, w.before args s' = true := vx_own hat' (vx_isRefq hU'.1) (vx_isRefq hN'.1) hU'.2.word hN'.2.word
  have hown' : s'.vm.findClass own = some m.cls := by rw [hvm]; exact hown
  have hins : (Cond.instantiable cls 6).before args s' = true := h _ (by simp [Bundle.ownAtoms0])
  obtain ⟨vm₁, cX, kX, hfX, hkX, -, -, X₁, st1⟩ := Y.newCold hexec (own := own) (C := cls) (index := ik) (n := 6) hown' hk' hins hini'
    (g := F0 m pc ls rest) rfl (by rw [hb]; exact d0) (Nat.le_refl _) (Nat.le_refl _)
  generalize hT1 : (T.setVm vm₁).pushCell { cls := cX, slots := kX.instanceTypes.map defaultValue, vm := .none } = T1 at X₁ st1
  have hcat : (Value.ref T.heap.size).category = 1 := rfl
  have hcellA : T1.heap[T.heap.size]? = some (freshCell cX kX) := by rw [← hT1]; exact State.heap_pushCell_size _ _
  have d3' : decode c.code (pc + 3) = .ok (.dup, 1) := by rw [hb]; exact d3
  obtain ⟨U, hsteps, hrun, hend, hW, hsame, ce, hce, hO⟩ := X₁.ctorThrow0 hexec htr (own := own) (cls := cls) (names := names) (ic := ic) hown' hcls hnames h (fun x hx => nomatch hx) hfX hkX hcellA (by rw [hhp, hT]; exact Nat.le_refl _)
    (g := { method := m, pc := pc + 4, locals := ls, stack := .ref T.heap.size :: .ref T.heap.size :: rest, locked := none }) rfl hsize rfl rfl (rest := rest) rfl
    (by rw [hb]; exact d4) (by rw [hb]; exact d7) hout hRframes (by simp only [List.map_cons, List.sum_cons, hcat]; omega) hlocks
  obtain ⟨f1, f2⟩ := vx_frame hsame
  rw [hhp] at f1 f2
  have hWs : s.WarmedH U.vm := State.WarmedH.trans hW0 hW
  have hcl : s.vm.findClass cls = some ce.cls := by
    have h9 := hO.cls
    rw [hvm] at h9
    exact h9
  have hall : s.sameButNew ({ U with vm := s.vm } : State) locs mc ms := by
    subst hA
    obtain ⟨e1, e2⟩ := hsame
    rw [State.setFrames_setFrames] at e1
    have h2 : (T.setVm s.vm).sameButNew ({ U with vm := s.vm } : State) [] (0 + 1) (0 + 6) := ⟨e1, e2⟩
    have h3 := X.same.trans h2
    rw [List.append_nil] at h3
    exact h3.mono hc hs
  refine ⟨U, ?_, .threw T.heap.size, hrun, hend, Or.inr ⟨T.heap.size, rfl, cls, ce, locs, hx U hWs.alike f1 (fun q hq => f2 q hq (fun z hz => nomatch hz)), hce, hO.vm, hcl, hWs, hall, hf⟩⟩
  refine st1 _ ?_
  show Steps p.tables e below (T1.setTop { method := m, pc := pc + 3, locals := ls, stack := .ref T.heap.size :: rest, locked := none }) _
  jvm_step X₁.here [X₁.here.top, hexec, d3', Value.category]
  exact hsteps
/-- 'throw new E("text")': new; dup; ldc; invokespecial; athrow -/
theorem vx_throwS {cc : ByteArray} {pc : Nat} (hexec : p.tables.exec = Jvm.exec) (hb : c.code = cc) (hl : l.stackTraces = false) {own cls text : String} {names : List String} {ik is ic mc ms sa : Nat} {A : Nat → Prop}
    (hown : s.vm.findClass own = some m.cls) (hcls : Bundle.fit cls = true) (hnames : ∀ n ∈ names, Bundle.fit n = true)
    (hk : (Cond.classLink own ik cls).before args s = true) (hini : (Cond.initialized cls).before args s = true) (hstr : vk_R own is text sa s) (hat : ∀ w ∈ vx_atS own ic cls names, w.before args s = true)
    (hgood : ∀ w ∈ Cond.classLink own ik cls :: Cond.initialized cls :: vx_atS own ic cls names, vx_ot w = true)
    (hU : vx_Zq Bundle.tN "UNASSIGNED_STACK" Bundle.steD A s s.heap) (hN : vx_Zq Bundle.tN "SUPPRESSED_SENTINEL" Bundle.listD A s s.heap) (hS : va_S A s.heap H locs) (hsize : ls.size = c.maxLocals)
    (d0 : decode cc pc = .ok (.new ik, 3)) (d3 : decode cc (pc + 3) = .ok (.dup, 1)) (d4 : decode cc (pc + 4) = .ok (.ldc is, 2)) (d6 : decode cc (pc + 6) = .ok (.invokespecial ic, 3)) (d9 : decode cc (pc + 9) = .ok (.athrow, 1))
    (hout : ∀ x ∈ c.exceptionTable.toList, covers x (pc + 9) = false)
    (hRframes : names.length + 3 < R.frames) (hRlocals : (rest.map fun v => v.category).sum + (13 * (names.length + 1) + 43) ≤ R.locals) (hRcells : cells + 1 ≤ R.cells) (hRslots : slots + 6 ≤ R.slots) (hlocks : meth.locks = false)
    (hx : ∀ t : State, s.vm.Alike t.vm → H.size ≤ t.heap.size → (∀ q : Nat, q < H.size → t.heap[q]? = H[q]?) → XC cls s t)
    (hf : ∀ z ∈ locs, free z.base) (hc : cells + 1 ≤ mc) (hs : slots + 6 ≤ ms) :
    W p l e R s m args below meth c H locs cells slots (vx_MQ below Qc XC args s mc ms free) (F0 m pc ls rest) := by
  intro T hT X
  have htr : e.platform.stackTraces = false := (show e.platform.stackTraces = l.stackTraces by rw [X.admits.platform]).trans hl
  have Y := vx_rebase X (R' := { frames := R.frames, locals := R.locals, cells := 1, slots := 6 }) (Nat.le_refl _) (Nat.le_refl _) hRcells hRslots
  obtain ⟨s', hA⟩ : ∃ z, z = (T.setVm s.vm).setFrames (.invoking m args :: below) := ⟨_, rfl⟩
  rw [← hA] at Y
  have hvm : s'.vm = s.vm := by rw [hA]; rfl
  have hhp : s'.heap = H := by rw [hA]; exact hT
  have hW0 : s.WarmedH s'.vm := by rw [hvm]; exact State.WarmedH.refl s
  have hat' : ∀ w ∈ vx_atS own ic cls names, w.before args s' = true := fun w hw => vx_ot_at hW0 hvm.symm (hgood w (List.mem_cons_of_mem _ (List.mem_cons_of_mem _ hw))) (hat w hw)
  have hk' : (Cond.classLink own ik cls).before args s' = true := vx_ot_at hW0 hvm.symm (hgood _ List.mem_cons_self) hk
  have hini' : (Cond.initialized cls).before args s' = true := vx_ot_at hW0 hvm.symm (hgood _ (List.mem_cons_of_mem _ List.mem_cons_self)) hini
  have hU' : vx_Zq Bundle.tN "UNASSIGNED_STACK" Bundle.steD A s' s'.heap := by rw [hhp]; exact vx_Zq.moved hW0.alike (hU.kept hS.2.1)
  have hN' : vx_Zq Bundle.tN "SUPPRESSED_SENTINEL" Bundle.listD A s' s'.heap := by rw [hhp]; exact vx_Zq.moved hW0.alike (hN.kept hS.2.1)
  have h : ∀ w ∈ Bundle.ownAtoms own ic cls names, w.before args s' = true := vx_own hat' (vx_isRefq hU'.1) (vx_isRefq hN'.1) hU'.2.word hN'.2.word
  have hown' : s'.vm.findClass own = some m.cls := by rw [hvm]; exact hown
  have hins : (Cond.instantiable cls 6).before args s' = true := h _ (by simp [Bundle.ownAtoms])
  obtain ⟨vm₁, cX, kX, hfX, hkX, -, -, X₁, st1⟩ := Y.newCold hexec (own := own) (C := cls) (index := ik) (n := 6) hown' hk' hins hini'
    (g := F0 m pc ls rest) rfl (by rw [hb]; exact d0) (Nat.le_refl _) (Nat.le_refl _)
  generalize hT1 : (T.setVm vm₁).pushCell { cls := cX, slots := kX.instanceTypes.map defaultValue, vm := .none } = T1 at X₁ st1
  have hcat : (Value.ref T.heap.size).category = 1 := rfl
  have hcellA : T1.heap[T.heap.size]? = some (freshCell cX kX) := by rw [← hT1]; exact State.heap_pushCell_size _ _
  have d3' : decode c.code (pc + 3) = .ok (.dup, 1) := by rw [hb]; exact d3
  have d4' : decode c.code (pc + 4) = .ok (.ldc is, 2) := by rw [hb]; exact d4
  have hstr' : vk_R own is text sa s' := vk_R.warm hW0 hstr
  obtain ⟨U, hsteps, hrun, hend, hW, hsame, ce, hce, hO⟩ := X₁.ctorThrowS hexec htr (own := own) (cls := cls) (names := names) (ic := ic) hown' hcls hnames h (fun x hx => nomatch hx) hfX hkX hcellA (by rw [hhp, hT]; exact Nat.le_refl _) (msg := .ref sa) rfl
    (g := { method := m, pc := pc + 6, locals := ls, stack := .ref sa :: .ref T.heap.size :: .ref T.heap.size :: rest, locked := none }) rfl hsize rfl rfl (rest := rest) rfl
    (by rw [hb]; exact d6) (by rw [hb]; exact d9) hout hRframes (by simp only [List.map_cons, List.sum_cons, hcat]; omega) hlocks
  obtain ⟨f1, f2⟩ := vx_frame hsame
  rw [hhp] at f1 f2
  have hWs : s.WarmedH U.vm := State.WarmedH.trans hW0 hW
  have hcl : s.vm.findClass cls = some ce.cls := by
    have h9 := hO.cls
    rw [hvm] at h9
    exact h9
  have hall : s.sameButNew ({ U with vm := s.vm } : State) locs mc ms := by
    subst hA
    obtain ⟨e1, e2⟩ := hsame
    rw [State.setFrames_setFrames] at e1
    have h2 : (T.setVm s.vm).sameButNew ({ U with vm := s.vm } : State) [] (0 + 1) (0 + 6) := ⟨e1, e2⟩
    have h3 := X.same.trans h2
    rw [List.append_nil] at h3
    exact h3.mono hc hs
  refine ⟨U, ?_, .threw T.heap.size, hrun, hend, Or.inr ⟨T.heap.size, rfl, cls, ce, locs, hx U hWs.alike f1 (fun q hq => f2 q hq (fun z hz => nomatch hz)), hce, hO.vm, hcl, hWs, hall, hf⟩⟩
  refine st1 _ ?_
  show Steps p.tables e below (T1.setTop { method := m, pc := pc + 3, locals := ls, stack := .ref T.heap.size :: rest, locked := none }) _
  jvm_step X₁.here [X₁.here.top, hexec, d3', Value.category]
  exact X₁.ldcString hexec (own := own) (text := text) (index := is) (a := sa) hown' hstr'.1 hstr'.2
    (g := { method := m, pc := pc + 4, locals := ls, stack := .ref T.heap.size :: .ref T.heap.size :: rest, locked := none }) rfl d4' _ hsteps
/-- 'throw new E("text")', the text by a wide index -/
theorem vx_throwSW {cc : ByteArray} {pc : Nat} (hexec : p.tables.exec = Jvm.exec) (hb : c.code = cc) (hl : l.stackTraces = false) {own cls text : String} {names : List String} {ik is ic mc ms sa : Nat} {A : Nat → Prop}
    (hown : s.vm.findClass own = some m.cls) (hcls : Bundle.fit cls = true) (hnames : ∀ n ∈ names, Bundle.fit n = true)
    (hk : (Cond.classLink own ik cls).before args s = true) (hini : (Cond.initialized cls).before args s = true) (hstr : vk_R own is text sa s) (hat : ∀ w ∈ vx_atS own ic cls names, w.before args s = true)
    (hgood : ∀ w ∈ Cond.classLink own ik cls :: Cond.initialized cls :: vx_atS own ic cls names, vx_ot w = true)
    (hU : vx_Zq Bundle.tN "UNASSIGNED_STACK" Bundle.steD A s s.heap) (hN : vx_Zq Bundle.tN "SUPPRESSED_SENTINEL" Bundle.listD A s s.heap) (hS : va_S A s.heap H locs) (hsize : ls.size = c.maxLocals)
    (d0 : decode cc pc = .ok (.new ik, 3)) (d3 : decode cc (pc + 3) = .ok (.dup, 1)) (d4 : decode cc (pc + 4) = .ok (.ldc_w is, 3)) (d7 : decode cc (pc + 7) = .ok (.invokespecial ic, 3)) (d10 : decode cc (pc + 10) = .ok (.athrow, 1))
    (hout : ∀ x ∈ c.exceptionTable.toList, covers x (pc + 10) = false)
    (hRframes : names.length + 3 < R.frames) (hRlocals : (rest.map fun v => v.category).sum + (13 * (names.length + 1) + 43) ≤ R.locals) (hRcells : cells + 1 ≤ R.cells) (hRslots : slots + 6 ≤ R.slots) (hlocks : meth.locks = false)
    (hx : ∀ t : State, s.vm.Alike t.vm → H.size ≤ t.heap.size → (∀ q : Nat, q < H.size → t.heap[q]? = H[q]?) → XC cls s t)
    (hf : ∀ z ∈ locs, free z.base) (hc : cells + 1 ≤ mc) (hs : slots + 6 ≤ ms) :
    W p l e R s m args below meth c H locs cells slots (vx_MQ below Qc XC args s mc ms free) (F0 m pc ls rest) := by
  intro T hT X
  have htr : e.platform.stackTraces = false := (show e.platform.stackTraces = l.stackTraces by rw [X.admits.platform]).trans hl
  have Y := vx_rebase X (R' := { frames := R.frames, locals := R.locals, cells := 1, slots := 6 }) (Nat.le_refl _) (Nat.le_refl _) hRcells hRslots
  obtain ⟨s', hA⟩ : ∃ z, z = (T.setVm s.vm).setFrames (.invoking m args :: below) := ⟨_, rfl⟩
  rw [← hA] at Y
  have hvm : s'.vm = s.vm := by rw [hA]; rfl
  have hhp : s'.heap = H := by rw [hA]; exact hT
  have hW0 : s.WarmedH s'.vm := by rw [hvm]; exact State.WarmedH.refl s
  have hat' : ∀ w ∈ vx_atS own ic cls names, w.before args s' = true := fun w hw => vx_ot_at hW0 hvm.symm (hgood w (List.mem_cons_of_mem _ (List.mem_cons_of_mem _ hw))) (hat w hw)
  have hk' : (Cond.classLink own ik cls).before args s' = true := vx_ot_at hW0 hvm.symm (hgood _ List.mem_cons_self) hk
  have hini' : (Cond.initialized cls).before args s' = true := vx_ot_at hW0 hvm.symm (hgood _ (List.mem_cons_of_mem _ List.mem_cons_self)) hini
  have hU' : vx_Zq Bundle.tN "UNASSIGNED_STACK" Bundle.steD A s' s'.heap := by rw [hhp]; exact vx_Zq.moved hW0.alike (hU.kept hS.2.1)
  have hN' : vx_Zq Bundle.tN "SUPPRESSED_SENTINEL" Bundle.listD A s' s'.heap := by rw [hhp]; exact vx_Zq.moved hW0.alike (hN.kept hS.2.1)
  have h : ∀ w ∈ Bundle.ownAtoms own ic cls names, w.before args s' = true := vx_own hat' (vx_isRefq hU'.1) (vx_isRefq hN'.1) hU'.2.word hN'.2.word
  have hown' : s'.vm.findClass own = some m.cls := by rw [hvm]; exact hown
  have hins : (Cond.instantiable cls 6).before args s' = true := h _ (by simp [Bundle.ownAtoms])
  obtain ⟨vm₁, cX, kX, hfX, hkX, -, -, X₁, st1⟩ := Y.newCold hexec (own := own) (C := cls) (index := ik) (n := 6) hown' hk' hins hini'
    (g := F0 m pc ls rest) rfl (by rw [hb]; exact d0) (Nat.le_refl _) (Nat.le_refl _)
  generalize hT1 : (T.setVm vm₁).pushCell { cls := cX, slots := kX.instanceTypes.map defaultValue, vm := .none } = T1 at X₁ st1
  have hcat : (Value.ref T.heap.size).category = 1 := rfl
  have hcellA : T1.heap[T.heap.size]? = some (freshCell cX kX) := by rw [← hT1]; exact State.heap_pushCell_size _ _
  have d3' : decode c.code (pc + 3) = .ok (.dup, 1) := by rw [hb]; exact d3
  have d4' : decode c.code (pc + 4) = .ok (.ldc_w is, 3) := by rw [hb]; exact d4
  have hstr' : vk_R own is text sa s' := vk_R.warm hW0 hstr
  obtain ⟨U, hsteps, hrun, hend, hW, hsame, ce, hce, hO⟩ := X₁.ctorThrowS hexec htr (own := own) (cls := cls) (names := names) (ic := ic) hown' hcls hnames h (fun x hx => nomatch hx) hfX hkX hcellA (by rw [hhp, hT]; exact Nat.le_refl _) (msg := .ref sa) rfl
    (g := { method := m, pc := pc + 7, locals := ls, stack := .ref sa :: .ref T.heap.size :: .ref T.heap.size :: rest, locked := none }) rfl hsize rfl rfl (rest := rest) rfl
    (by rw [hb]; exact d7) (by rw [hb]; exact d10) hout hRframes (by simp only [List.map_cons, List.sum_cons, hcat]; omega) hlocks
  obtain ⟨f1, f2⟩ := vx_frame hsame
  rw [hhp] at f1 f2
  have hWs : s.WarmedH U.vm := State.WarmedH.trans hW0 hW
  have hcl : s.vm.findClass cls = some ce.cls := by
    have h9 := hO.cls
    rw [hvm] at h9
    exact h9
  have hall : s.sameButNew ({ U with vm := s.vm } : State) locs mc ms := by
    subst hA
    obtain ⟨e1, e2⟩ := hsame
    rw [State.setFrames_setFrames] at e1
    have h2 : (T.setVm s.vm).sameButNew ({ U with vm := s.vm } : State) [] (0 + 1) (0 + 6) := ⟨e1, e2⟩
    have h3 := X.same.trans h2
    rw [List.append_nil] at h3
    exact h3.mono hc hs
  refine ⟨U, ?_, .threw T.heap.size, hrun, hend, Or.inr ⟨T.heap.size, rfl, cls, ce, locs, hx U hWs.alike f1 (fun q hq => f2 q hq (fun z hz => nomatch hz)), hce, hO.vm, hcl, hWs, hall, hf⟩⟩
  refine st1 _ ?_
  show Steps p.tables e below (T1.setTop { method := m, pc := pc + 3, locals := ls, stack := .ref T.heap.size :: rest, locked := none }) _
  jvm_step X₁.here [X₁.here.top, hexec, d3', Value.category]
  exact X₁.ldcStringW hexec (own := own) (text := text) (index := is) (a := sa) hown' hstr'.1 hstr'.2
    (g := { method := m, pc := pc + 4, locals := ls, stack := .ref T.heap.size :: .ref T.heap.size :: rest, locked := none }) rfl d4' _ hsteps
end Ends
section Bodies
variable {l : Launch}
theorem vx_ofW {y : MethodName} {ws ws' : List Cond} {rm : Room} {Pc : Array Value → State → Prop} {Qc : Array Value → State → Outcome → State → Prop} {XC : String → State → State → Prop} {mc ms : Nat} {free : Addr → Prop} {cc : ByteArray} {maxL : Nat} {ret : Option FieldType}
    (hy : plainName y.cls = true) (hw : ws = Cond.code y cc maxL ret :: ws')
    (body : ∀ p e s m args below meth c s₁, BodyLoose p l y (headSpec ws rm) cc maxL ret e s m args below meth c s₁ → c.maxLocals = maxL → (∀ x ∈ c.exceptionTable.toList, False) → Pc args s →
      W p l e (headSpec ws rm).room s m args below meth c s.heap [] 0 0 (vx_MQ below Qc XC args s mc ms free) (entryFrame m args maxL)) : vx_Met l y ws rm Pc Qc XC mc ms free := by
  refine MetFree.of_bodyS (code := cc) (maxLocals := maxL) (ret := ret) hy ?_ ?_
  · intro args s m h hn
    obtain ⟨meth, c, h1, h2, h3, h4, h5, h6, -, -⟩ := Cond.code_spec hn (atoms_spec (ws := ws) h _ (by rw [hw]; exact List.mem_cons_self))
    exact ⟨meth, c, h1, h2, h3, h4, h5, h6⟩
  · intro p e s m args below meth c s₁ B hml hP _
    have hh0 : s₁.heap = s.heap := by rw [B.state]; rfl
    have ht : ∀ x ∈ c.exceptionTable.toList, False := by
      obtain ⟨meth9, c9, h1, h2, -, -, -, -, h7, -⟩ := Cond.code_spec B.named (atoms_spec (ws := ws) B.pre _ (by rw [hw]; exact List.mem_cons_self))
      cases Option.some.inj (h1.symm.trans B.method)
      cases Option.some.inj (h2.symm.trans (Stand.of_body B).code)
      intro x hx
      rw [Array.isEmpty_iff.mp h7] at hx
      cases hx
    obtain ⟨t, a1, o, b1, b2, b3⟩ := body p e s m args below meth c s₁ B hml ht hP s₁ hh0 (Stand.of_body B)
    exact ⟨t, o, a1, b1, b2, b3⟩
/-- the table of a body with handlers -/
theorem vx_table {p : Program} {x y : MethodName} {S : Spec} {cc bytes : ByteArray} {maxL maxL' : Nat} {ret ret' : Option FieldType} {e : Env} {s s₁ : State} {m : MethodId} {args : Array Value} {below : List Frame} {meth : Method} {c : Code} {hh : List (Nat × Nat × Nat × Nat)}
    (B : BodyLoose p l y S cc maxL ret e s m args below meth c s₁) (h : (Cond.codeWith y bytes maxL' ret' hh).before args s = true) : c.exceptionTable.toList = tableOf hh := by
  obtain ⟨m9, meth9, c9, hn9, h1, h2, -, -, h6, -⟩ := Cond.codeWith_spec h
  cases Option.some.inj (hn9.symm.trans B.named)
  cases Option.some.inj (h1.symm.trans B.method)
  cases Option.some.inj (h2.symm.trans (Stand.of_body B).code)
  rw [← h6, table_eq]
end Bodies
end VXA
/-! ===== END ===== -/
/-! ===== BEGIN a static call of a method with an exception table ===== -/
section VXS
variable {p : Program} {l : Launch} {e : Env} {R : Room} {s : State} {m : MethodId} {args : Array Value} {below : List Frame} {meth : Method} {c : Code} {T : State} {H : Heap} {locs : List Loc} {cells slots : Nat}
abbrev vx_CSW (R : Room) (s : State) (args : Array Value) (own : String) (index : Nat) (y : MethodName) (bytes : ByteArray) (maxL : Nat) (ret : Option FieldType) (hh : List (Nat × Nat × Nat × Nat)) (ws : List Cond) (rm : Room) (mc ms n : Nat) : Prop :=
  (rm.cells = mc ∧ rm.slots = ms ∧ rm.frames + 1 ≤ R.frames ∧ 8 + (maxL + 11) + rm.locals ≤ R.locals ∧ (∀ w ∈ ws, ∀ (a' : Array Value) (U : State), s.WarmedH U.vm → w.before a' U = true) ∧ Cond.codeWith y bytes maxL ret hh ∈ ws) ∧
  (Cond.codeWith y bytes maxL ret hh).before args s = true ∧ (Cond.initialized y.cls).before args s = true ∧ (y.cls ≠ "java/lang/invoke/MethodHandle" ∧ y.cls ≠ "java/lang/invoke/VarHandle") ∧
  (∀ sig, parseMethodDescriptor y.desc = some sig → n = sig.parameters.length) ∧ (Cond.methodLink own index y).before args s = true ∧ (Cond.static y).before args s = true
theorem vx_cwSW {own : String} {index maxL mc ms : Nat} {y : MethodName} {bytes : ByteArray} {ret : Option FieldType} {hh : List (Nat × Nat × Nat × Nat)} {Ts ws ws' : List Cond} {rm : Room} (n : Nat) (ht : ∀ w ∈ Ts, w.before args s = true) (hT : GoodIn Ts (va_wsS own index y ws)) (hw : ws = Cond.codeWith y bytes maxL ret hh :: ws') (hrc : rm.cells = mc) (hrs : rm.slots = ms)
    (hd : y.cls ≠ "java/lang/invoke/MethodHandle" ∧ y.cls ≠ "java/lang/invoke/VarHandle" ∧ (parseMethodDescriptor y.desc).map (fun d => d.parameters.length) = some n) (hR : rm.frames + 1 ≤ R.frames ∧ 8 + (maxL + 11) + rm.locals ≤ R.locals) :
    vx_CSW R s args own index y bytes maxL ret hh ws rm mc ms n := by
  have ok : ∀ w ∈ va_wsS own index y ws, w.before args s = true := fun w h => ht w (hT w h).1
  have hG : GoodIn Ts ws := fun w h => hT w (by unfold va_wsS; exact List.mem_append_right _ h)
  have hc : Cond.codeWith y bytes maxL ret hh ∈ ws := by rw [hw]; exact List.mem_cons_self
  refine ⟨⟨hrc, hrs, hR.1, hR.2, pay_in ht hG, hc⟩, ht _ (hG _ hc).1, ok _ (by simp [va_wsS]), ⟨hd.1, hd.2.1⟩, fun sig h => ?_, ok _ (by simp [va_wsS]), ok _ (by simp [va_wsS])⟩
  have h2 := hd.2.2
  rw [h] at h2
  exact (Option.some.inj h2).symm
theorem vx_callSW (X : Stand p l e R s m args below meth c T locs cells slots) (hexec : p.tables.exec = Jvm.exec) {own : String} {index : Nat} {y : MethodName} {bytes : ByteArray} {maxL : Nat} {ret : Option FieldType} {hh : List (Nat × Nat × Nat × Nat)}
    (hown : s.vm.findClass own = some m.cls) (hlink : (Cond.methodLink own index y).before args s = true) (hstat : (Cond.static y).before args s = true) (hinit : (Cond.initialized y.cls).before args s = true)
    (hcode : (Cond.codeWith y bytes maxL ret hh).before args s = true) (hy : y.cls ≠ "java/lang/invoke/MethodHandle" ∧ y.cls ≠ "java/lang/invoke/VarHandle")
    {W9 : Nat} {Pre : Pt → Array Value → Prop} {Post : Pt → Array Value → Option Value → Pt → Prop} (hK : Back l R p e below s args y 3 W9 Pre Post)
    {g : JFrame} (hg : g.method = m) (hsize : g.locals.size = c.maxLocals) {argsL rest : List Value} (hlen : ∀ sig, parseMethodDescriptor y.desc = some sig → argsL.length = sig.parameters.length)
    (hstack : g.stack = argsL.reverse ++ rest) (hW : 2 * g.monitorRoom + (rest.map fun v => v.category).sum ≤ W9) (hdg : decode c.code g.pc = .ok (.invokestatic index, 3))
    (hpre : ∀ vm₁, s.WarmedH vm₁ → Pre ⟨T.setVm vm₁, locs, cells, slots⟩ argsL.toArray) :
    ∃ (v : Option Value) (vm₁ : Vm) (B : Pt), s.WarmedH vm₁ ∧ Stand p l e R s m args below meth c B.U B.locs B.cells B.slots ∧ Post ⟨T.setVm vm₁, locs, cells, slots⟩ argsL.toArray v B ∧
      ∀ target, Steps p.tables e below (B.U.setTop { g with pc := g.pc + 3, stack := v.toList ++ rest }) target → Steps p.tables e below (T.setTop g) target := by
  obtain ⟨mk, methM, cM, hnamed, hmethM, -, -, -, -, -, -, hsigM⟩ := Cond.codeWith_spec hcode
  have hstatic : methM.isStatic = true := Cond.static_spec hnamed hmethM hstat
  obtain ⟨kP, hkP, -⟩ := className_of_methodNamed hnamed
  have hinitP : kP.init = .initialized := Cond.initialized_spec (findClass_of_methodNamed hnamed) hkP hinit
  obtain ⟨vm₁, X₁, hstep₁⟩ := X.invokestatic hexec hown hlink hnamed hmethM hstatic hkP hinitP hy (g := g) hg (argsL := argsL) (rest := rest) (hlen _ hsigM) hstack hdg
  obtain ⟨v, B, X', hpost, hsteps⟩ := hK m meth c ⟨T.setVm vm₁, locs, cells, slots⟩ { g with stack := rest } (.invokestatic index) mk argsL.toArray X₁ hg hsize hdg hW (X₁.named hnamed) (hpre vm₁ X₁.warmed)
  exact ⟨v, vm₁, B, X₁.warmed, X', hpost, fun target h => hstep₁ _ fun acts => by rw [doInvoke_state]; exact hsteps.trans h⟩
theorem vx_runSW {y : MethodName} {bytes cc : ByteArray} {maxL nL mc ms n index : Nat} {ret : Option FieldType} {hh : List (Nat × Nat × Nat × Nat)} {ws : List Cond} {rm : Room} {Pc : Array Value → State → Prop} {Qc : Array Value → State → Outcome → State → Prop} {free : Addr → Prop} {Ts : List Cond} {own : String} {As rest : List Value} {g : JFrame}
    (S : CallFix p m c cc nL s args Ts own) (hM : Met l y ws rm Pc Qc mc ms free) (cw : vx_CSW R s args own index y bytes maxL ret hh ws rm mc ms n) (hp : PreS s H Pc As)
    (hg : g.method = m) (hn : As.length = n) (hsize : g.locals.size = nL) (hstack : g.stack = As.reverse ++ rest) (hW : 2 * g.monitorRoom + (rest.map fun v => v.category).sum ≤ 8) (hdg : decode cc g.pc = .ok (.invokestatic index, 3)) (hf : cells + mc ≤ R.cells ∧ slots + ms ≤ R.slots) :
    va_Run p l e R s m args below meth c H locs cells slots mc ms g rest (Qc As.toArray) (free) := by
  obtain ⟨⟨hrc, hrs, hfr, hlo, hws, hcw⟩, hcode, hini, hy, hlen, hl, hstt⟩ := cw
  have hK : Back l R p e below s args y 3 8 (PreOf R mc ms Pc) (PostOf Qc mc ms free) := va_backW (hh := hh) (bytes := bytes) (maxL := maxL) (ret := ret) hM hp.1 hrc hrs hfr hlo hws hcw (fun a' U hW => word_at hW (Or.inl (by first | rfl | simp [Cond.onTables, Cond.keeps, Cond.steady])) hini)
  obtain ⟨hx, hb, hml, ho, -⟩ := S
  intro T hT X
  obtain ⟨v, vm₁, ⟨U', l2, c2, s2⟩, hW₁, X', ⟨g', mk, t, L, e1, e2, hq, h1, hL, h2, h3⟩, st⟩ := vx_callSW X hx (hh := hh) (bytes := bytes) (maxL := maxL) (ret := ret) ho hl hstt hini hcode hy hK hg (hsize.trans hml.symm) (argsL := As) (rest := rest) (fun sig h => hn.trans (hlen sig h)) hstack hW (by rw [hb]; exact hdg)
    (fun vm₁ hW₁ => ⟨hf.1, hf.2, hp.2 (T.setVm vm₁) hT hW₁⟩)
  dsimp only [Pt.U, Pt.locs, Pt.cells, Pt.slots] at X' e1 e2 h1 h2 h3 st
  subst h1; subst h2; subst h3
  exact ⟨v, (T.setVm vm₁).calling g' mk As.toArray, t, U', L, hT, X', hL, e1, e2, hq, st⟩
/-- not caught here, past rows that name other classes: it goes on to the caller -/
theorem vx_outP {p : Program} {l : Launch} {e : Env} {R : Room} {s : State} {m : MethodId} {args : Array Value} {below : List Frame} {meth : Method} {c : Code} {H : Heap} {locs : List Loc} {cells slots : Nat} {free : Addr → Prop} {ls : Array Slot} {rest : List Value} {Qc : Array Value → State → Outcome → State → Prop} {XC : String → State → State → Prop}
    {pc : Nat} {own E : String} {ce : Cell} {q : Addr} {mc ms : Nat} (hown : s.vm.findClass own = some m.cls) (hlocks : meth.locks = false)
    (hpass : ∀ z ∈ c.exceptionTable.toList, covers z pc = false ∨ (z.catchType ≠ 0 ∧ ∃ nm : String, (Cond.classLink own z.catchType nm).before args s = true ∧ va_Nc E nm s)) (hcell : H[q]? = some ce) (hv : ce.vm = .none) (hcl : s.vm.findClass E = some ce.cls)
    (hx : ∀ t : State, t.heap = H → s.vm.Alike t.vm → XC E s t) (hf : ∀ z ∈ locs, free z.base) (hc : cells ≤ mc) (hs : slots ≤ ms) :
    vx_W p l e R s m args below meth c H locs cells slots (vx_MQ below Qc XC args s mc ms free) (F0 m pc ls rest) q := by
  intro T hT X
  have hpl : e.platform.magicAccessors = ({} : Platform).magicAccessors := by rw [X.admits.platform]
  obtain ⟨vm', hW', X', st⟩ := X.outThrough hlocks q (g := F0 m pc ls rest) rfl rfl rfl (cell := ce) (by rw [hT]; exact hcell) (by rw [hv]; rfl)
    (by obtain ⟨k9, h9, -⟩ := Vm.findClass_spec hcl; exact ⟨k9, h9⟩) (fun z hz => by
      rcases hpass z hz with h | ⟨hz0, nm, hl1, hn1⟩
      · exact Or.inl h
      · obtain ⟨c6, hc6, hcl6⟩ := Cond.classLink_spec hown hl1 e.platform hpl
        obtain ⟨a8, b8, h1, h2, h3⟩ := hn1
        cases Option.some.inj (h1.symm.trans hcl)
        cases Option.some.inj (h2.symm.trans hc6)
        exact Or.inr ⟨hz0, _, hcl6, h3⟩)
  obtain ⟨g₀, hfr⟩ := X'.frames_eq
  have hcell9 : ((T.setVm vm').setFrames (.throwing q :: below)).heap[q]? = some ce := by
    show T.heap[q]? = some ce
    rw [hT]; exact hcell
  have hend : Ended ((T.setVm vm').setFrames (.throwing q :: below)) below (.threw q) := State.frames_setFrames _ (State.cur_lt_of_frames hfr)
  refine ⟨(T.setVm vm').setFrames (.throwing q :: below), ?_, .threw q, X'.here.running, hend, Or.inr ⟨q, rfl, E, ce, locs, hx _ hT (X'.ends _).1.alike, hcell9, hv, hcl, (X'.ends _).1, (X'.ends _).2.mono hc hs, hf⟩⟩
  rw [X.pushThrowing_eq]
  exact st
/-- a thing of a world lies in the heap -/
theorem vx_lt {D : va_G} {cl : List vw_C} {ws : va_W} {H1 : Heap} (h : va_P D cl ws H1) {k : Nat} {q : Nat × va_E} (hk : ws[k]? = some q) : q.1 < H1.size := (h k q hk).lt
end VXS
/-! ===== END ===== -/
/-! ===== BEGIN methods with a table of their own: called by a name, returning or throwing ===== -/
section VXH
/-! vx_backW, vx_callVX, vx_callSX, vx_callVW, vx_runVW, vx_runVX, vx_runSX, vx_ofWH follow the same proofs as their sisters above (Free/Laws.lean, Shelf42/LK1.lean); vx_outP calls Shelf42/NT130.lean (outThrough). -/
section
variable {l : Launch} {R : Room} {p : Program} {e : Env} {below : List Frame} {s : State} {sargs : Array Value} {y : MethodName} {len W9 : Nat}
theorem vx_backW {ws : List Cond} {rm : Room} {Pc : Array Value → State → Prop} {Qc : Array Value → State → Outcome → State → Prop} {XC : String → State → State → Prop} {mc ms : Nat} {free : Addr → Prop} {bytes : ByteArray} {maxL : Nat} {ret : Option FieldType} {hh : List (Nat × Nat × Nat × Nat)}
    (hM : vx_Met l y ws rm Pc Qc XC mc ms free) (hblind : FrameBlind Pc) (hrc : rm.cells = mc) (hrs : rm.slots = ms)
    (hframes : rm.frames + 1 ≤ R.frames) (hlocals : W9 + (maxL + 11) + rm.locals ≤ R.locals)
    (hws : ∀ w ∈ ws, ∀ a' U, s.WarmedH U.vm → w.before a' U = true) (hcode : Cond.codeWith y bytes maxL ret hh ∈ ws) (hinit : ∀ a' U, s.WarmedH U.vm → (Cond.initialized y.cls).before a' U = true) :
    vx_Back l R p e below s sargs y len W9 (PreOf R mc ms Pc) (PostOf Qc mc ms free) (vx_Post XC mc ms free) := by
  intro m meth c A g ig mk a X hg hsize hdg hW hn hp
  have h1 : (headSpec ws rm).pre.before a A.U = true := atoms_intro fun w hw => hws w hw _ _ X.warmed
  have h2 : (Cond.codeWith y bytes maxL ret hh).before a A.U = true := hws _ hcode _ _ X.warmed
  have h3 : (Cond.initialized y.cls).before a A.U = true := hinit _ _ X.warmed
  have h4 : A.cells + (headSpec ws rm).room.cells ≤ R.cells := by rw [show (headSpec ws rm).room.cells = mc from hrc]; exact hp.1
  have h5 : A.slots + (headSpec ws rm).room.slots ≤ R.slots := by rw [show (headSpec ws rm).room.slots = ms from hrs]; exact hp.2.1
  have hPc : Pc a (A.U.calling g mk a) := hblind _ _ _ _ hp.2.2
  obtain ⟨U, Ls, c0, s0⟩ := A
  dsimp only [Pt.U, Pt.locs, Pt.cells, Pt.slots] at h1 h2 h3 h4 h5 X hn hPc ⊢
  obtain ⟨m9, methY, cY, hn9, hmY, hcY, -, hlY, -⟩ := Cond.codeWith_spec h2
  cases Option.some.inj (hn9.symm.trans hn)
  obtain ⟨kY, hkY, -⟩ := className_of_methodNamed hn
  have hinitY : kY.init = .initialized := Cond.initialized_spec (findClass_of_methodNamed hn) hkY h3
  have h : At U g.method c below := by rw [hg]; exact X.here
  have hlocals9 : W9 + (maxL + 11) + (headSpec ws rm).room.locals ≤ R.locals := hlocals
  have happ : (headSpec ws rm).appliesLoose y e.platform (U.calling g mk a) = true :=
    Spec.appliesLoose_calling (g := g) h hdg hn hkY hinitY
      (X.room_calling (g := g) (R' := (headSpec ws rm).room) hsize hmY hcY hframes (by rw [hlY]; omega) h4 h5) h1
  obtain ⟨mid, hmid⟩ := h.above
  have hfr : (U.setTop g).frames = (.java g :: mid) ++ below := by rw [State.frames_setTop' g h.top, hmid]; rfl
  obtain ⟨o, s₂, hsteps, -, hend, hq⟩ := Steps.callFree hM p X.admits X.cas X.clock (acts := []) hfr happ hPc trivial
  have hq' : vx_Q Qc XC mc ms free a (U.calling g mk a) o s₂ := hq
  rw [State.frames_setTop' g h.top] at hend
  obtain ⟨g₀, hg0⟩ := Option.isSome_iff_exists.mp h.top
  obtain ⟨r, hr⟩ := State.topJava?_eq_some.mp hg0
  have hr' : (({ U with heap := s₂.heap, slotsUsed := s₂.slotsUsed } : State).setVm s₂.vm).frames = .java g₀ :: r := hr
  rcases hq' with ⟨hqc, L, hfe, hL⟩ | ⟨q, rfl, E, ce, L, hx, hce, hcv, hcl, hW₂, hsm, hL⟩
  · obtain ⟨⟨v, rfl⟩, hW₂, e2, q2, q3, q4, q5, q6⟩ := id hfe
    have e3 : s₂ = ({ (U.calling g mk a).setFrames s₂.frames with heap := s₂.heap, slotsUsed := s₂.slotsUsed } : State).setVm s₂.vm := by
      have : s₂ = ({ s₂ with vm := (U.calling g mk a).vm } : State).setVm s₂.vm := rfl
      rw [e2] at this
      exact this
    obtain ⟨c₂, i₂, len₂, hc₂, hd₂, hf₂⟩ := hend
    have hW' : U.WarmedH s₂.vm := hW₂
    have hcc : c₂ = c := by
      have h1 : s₂.code? g.method = U.code? g.method := by
        rw [State.code?_eq, State.code?_eq, hW'.alike.method?]
      exact Option.some.inj (hc₂.symm.trans (h1.trans h.code))
    subst hcc
    have hlen : len₂ = len := by rw [hdg] at hd₂; cases hd₂; rfl
    subst hlen
    have hs₂ : s₂ = (({ U with heap := s₂.heap, slotsUsed := s₂.slotsUsed } : State).setVm s₂.vm).setTop { g with pc := g.pc + len₂, stack := v.toList ++ g.stack } := by
      refine e3.trans ?_
      rw [hf₂, State.calling_eq h.top, State.setFrames_setFrames, State.setTop_of_frames _ hr', hr]
      rfl
    have hsame : U.sameButNew ({ U with heap := s₂.heap, slotsUsed := s₂.slotsUsed } : State) L mc ms := by
      refine ⟨?_, q2, q3, q4, q5, q6⟩
      obtain ⟨t, ht, -⟩ := State.frames_cons hr
      show ({ U with heap := s₂.heap, slotsUsed := s₂.slotsUsed } : State) = { U.setFrames U.frames with heap := s₂.heap, slotsUsed := s₂.slotsUsed }
      rw [State.setFrames_self ht]
    subst hg
    refine Or.inl ⟨v, ⟨(({ U with heap := s₂.heap, slotsUsed := s₂.slotsUsed } : State).setVm s₂.vm), Ls ++ L, c0 + mc, s0 + ms⟩,
      ⟨X.admits, X.cas, X.clock, X.frames, X.room, X.hears, X.method, X.code, (X.here.setHeapUsed s₂.heap s₂.slotsUsed).setVm hW'.alike, X.tail, State.WarmedH.trans X.warmed hW', X.limits, X.bytes, X.same.trans (hsame.setVm s.vm)⟩,
      ⟨g, mk, s₂, L, rfl, rfl, hqc, rfl, hL, rfl, rfl⟩, ?_⟩
    show Steps p.tables e below _ ((({ U with heap := s₂.heap, slotsUsed := s₂.slotsUsed } : State).setVm s₂.vm).setTop { g with pc := g.pc + len₂, stack := v.toList ++ g.stack })
    rw [← hs₂]
    exact hsteps
  · obtain ⟨e2, q2, q3, q4, q5, q6⟩ := id hsm
    have e3 : s₂ = ({ (U.calling g mk a).setFrames s₂.frames with heap := s₂.heap, slotsUsed := s₂.slotsUsed } : State).setVm s₂.vm := by
      have : s₂ = ({ s₂ with vm := (U.calling g mk a).vm } : State).setVm s₂.vm := rfl
      rw [e2] at this
      exact this
    have hf₂ : s₂.frames = .throwing q :: .java g :: U.frames.tail := hend
    have hW' : U.WarmedH s₂.vm := hW₂
    have hs₂ : s₂ = ((({ U with heap := s₂.heap, slotsUsed := s₂.slotsUsed } : State).setVm s₂.vm).setTop g).pushFrame (.throwing q) := by
      refine e3.trans ?_
      rw [hf₂, State.calling_eq h.top, State.setFrames_setFrames, State.pushFrame, State.frames_setTop _ hr', State.setTop_of_frames _ hr', State.setFrames_setFrames, hr]
      rfl
    have hsame : U.sameButNew ({ U with heap := s₂.heap, slotsUsed := s₂.slotsUsed } : State) L mc ms := by
      refine ⟨?_, q2, q3, q4, q5, q6⟩
      obtain ⟨t, ht, -⟩ := State.frames_cons hr
      show ({ U with heap := s₂.heap, slotsUsed := s₂.slotsUsed } : State) = { U.setFrames U.frames with heap := s₂.heap, slotsUsed := s₂.slotsUsed }
      rw [State.setFrames_self ht]
    subst hg
    refine Or.inr ⟨q, ⟨(({ U with heap := s₂.heap, slotsUsed := s₂.slotsUsed } : State).setVm s₂.vm), Ls ++ L, c0 + mc, s0 + ms⟩,
      ⟨X.admits, X.cas, X.clock, X.frames, X.room, X.hears, X.method, X.code, (X.here.setHeapUsed s₂.heap s₂.slotsUsed).setVm hW'.alike, X.tail, State.WarmedH.trans X.warmed hW', X.limits, X.bytes, X.same.trans (hsame.setVm s.vm)⟩,
      ⟨g, mk, s₂, L, E, ce, rfl, rfl, hx, hce, hcv, hcl, rfl, hL, rfl, rfl⟩, ?_⟩
    show Steps p.tables e below _ (((({ U with heap := s₂.heap, slotsUsed := s₂.slotsUsed } : State).setVm s₂.vm).setTop g).pushFrame (.throwing q))
    rw [← hs₂]
    exact hsteps
end
variable {p : Program} {l : Launch} {e : Env} {R : Room} {s : State} {m : MethodId} {args : Array Value} {below : List Frame} {meth : Method} {c : Code} {T : State} {H : Heap} {locs : List Loc} {cells slots : Nat}
theorem vx_callVX (X : Stand p l e R s m args below meth c T locs cells slots) (hexec : p.tables.exec = Jvm.exec) {own C : String} {index : Nat} {y : MethodName} {bytes : ByteArray} {maxL : Nat} {ret : Option FieldType} {hh : List (Nat × Nat × Nat × Nat)}
    (hown : s.vm.findClass own = some m.cls) (hlink : (Cond.methodLink own index y).before args s = true) (hinst : (Cond.instanceMethod y).before args s = true) (hsel : (Cond.selects C y y).before args s = true)
    (hcode : (Cond.codeWith y bytes maxL ret hh).before args s = true) (hy : y.cls ≠ "java/lang/invoke/MethodHandle" ∧ y.cls ≠ "java/lang/invoke/VarHandle")
    {W9 : Nat} {Pre : Pt → Array Value → Prop} {Post : Pt → Array Value → Option Value → Pt → Prop} {PostX : Pt → Array Value → Addr → Pt → Prop} (hK : vx_Back l R p e below s args y 3 W9 Pre Post PostX)
    {b : Addr} {cellB : Cell} (hcell : T.heap[b]? = some cellB) (hobj : cellB.vm.isStatics = false) (hcls : s.vm.findClass C = some cellB.cls)
    {g : JFrame} (hg : g.method = m) (hsize : g.locals.size = c.maxLocals) {argsL rest : List Value} (hlen : ∀ sig, parseMethodDescriptor y.desc = some sig → argsL.length = sig.parameters.length)
    (hstack : g.stack = argsL.reverse ++ .ref b :: rest) (hW : 2 * g.monitorRoom + (rest.map fun v => v.category).sum ≤ W9) (hdg : decode c.code g.pc = .ok (.invokevirtual index, 3))
    (hpre : ∀ vm₁, s.WarmedH vm₁ → Pre ⟨T.setVm vm₁, locs, cells, slots⟩ (Value.ref b :: argsL).toArray) :
    (∃ (v : Option Value) (vm₁ : Vm) (B : Pt), s.WarmedH vm₁ ∧ Stand p l e R s m args below meth c B.U B.locs B.cells B.slots ∧ Post ⟨T.setVm vm₁, locs, cells, slots⟩ (Value.ref b :: argsL).toArray v B ∧
      ∀ target, Steps p.tables e below (B.U.setTop { g with pc := g.pc + 3, stack := v.toList ++ rest }) target → Steps p.tables e below (T.setTop g) target) ∨
    (∃ (q : Addr) (vm₁ : Vm) (B : Pt), s.WarmedH vm₁ ∧ Stand p l e R s m args below meth c B.U B.locs B.cells B.slots ∧ PostX ⟨T.setVm vm₁, locs, cells, slots⟩ (Value.ref b :: argsL).toArray q B ∧
      Steps p.tables e below (T.setTop g) ((B.U.setTop { g with stack := rest }).pushFrame (.throwing q))) := by
  obtain ⟨mk, methM, hnamed, hmethM, hstM, habM⟩ := Cond.instanceMethod_spec hinst
  obtain ⟨m8, methM', cM, hn8, hmethM', -, -, -, -, -, -, hsigM⟩ := Cond.codeWith_spec hcode
  cases Option.some.inj (hn8.symm.trans hnamed)
  cases hmethM.symm.trans hmethM'
  obtain ⟨c2, r2, m2, q1, q2, q3, q4, kP, hkP, hkPi⟩ := Cond.selects_spec hsel
  cases hcls.symm.trans q1
  cases (State.methodFound?_of_named hnamed hy).symm.trans q2
  cases hnamed.symm.trans q3
  have hselP : selectMethod e.platform s.vm cellB.cls mk = .method mk := by rw [Launch.admits_selectMethod X.admits]; exact q4
  obtain ⟨vm₁, X₁, hstep₁⟩ := X.invokevirtual hexec hown hlink hnamed hmethM hstM hkP hkPi hy (a := b) (cell := cellB) hcell
    (fun z h => by rw [h] at hobj; cases hobj) hselP hmethM habM hkP hkPi (g := g) hg (argsL := argsL) (rest := rest) (hlen _ hsigM) hstack hdg
  rcases hK m meth c ⟨T.setVm vm₁, locs, cells, slots⟩ { g with stack := rest } (.invokevirtual index) mk (Value.ref b :: argsL).toArray X₁ hg hsize hdg hW (X₁.named hnamed) (hpre vm₁ X₁.warmed) with ⟨v, B, X', hpost, hsteps⟩ | ⟨q, B, X', hpost, hsteps⟩
  · exact Or.inl ⟨v, vm₁, B, X₁.warmed, X', hpost, fun target h => hstep₁ _ fun acts => by rw [doInvoke_state]; exact hsteps.trans h⟩
  · exact Or.inr ⟨q, vm₁, B, X₁.warmed, X', hpost, hstep₁ _ fun acts => by rw [doInvoke_state]; exact hsteps⟩
theorem vx_callSX (X : Stand p l e R s m args below meth c T locs cells slots) (hexec : p.tables.exec = Jvm.exec) {own : String} {index : Nat} {y : MethodName} {bytes : ByteArray} {maxL : Nat} {ret : Option FieldType} {hh : List (Nat × Nat × Nat × Nat)}
    (hown : s.vm.findClass own = some m.cls) (hlink : (Cond.methodLink own index y).before args s = true) (hstat : (Cond.static y).before args s = true) (hinit : (Cond.initialized y.cls).before args s = true)
    (hcode : (Cond.codeWith y bytes maxL ret hh).before args s = true) (hy : y.cls ≠ "java/lang/invoke/MethodHandle" ∧ y.cls ≠ "java/lang/invoke/VarHandle")
    {W9 : Nat} {Pre : Pt → Array Value → Prop} {Post : Pt → Array Value → Option Value → Pt → Prop} {PostX : Pt → Array Value → Addr → Pt → Prop} (hK : vx_Back l R p e below s args y 3 W9 Pre Post PostX)
    {g : JFrame} (hg : g.method = m) (hsize : g.locals.size = c.maxLocals) {argsL rest : List Value} (hlen : ∀ sig, parseMethodDescriptor y.desc = some sig → argsL.length = sig.parameters.length)
    (hstack : g.stack = argsL.reverse ++ rest) (hW : 2 * g.monitorRoom + (rest.map fun v => v.category).sum ≤ W9) (hdg : decode c.code g.pc = .ok (.invokestatic index, 3))
    (hpre : ∀ vm₁, s.WarmedH vm₁ → Pre ⟨T.setVm vm₁, locs, cells, slots⟩ argsL.toArray) :
    (∃ (v : Option Value) (vm₁ : Vm) (B : Pt), s.WarmedH vm₁ ∧ Stand p l e R s m args below meth c B.U B.locs B.cells B.slots ∧ Post ⟨T.setVm vm₁, locs, cells, slots⟩ argsL.toArray v B ∧
      ∀ target, Steps p.tables e below (B.U.setTop { g with pc := g.pc + 3, stack := v.toList ++ rest }) target → Steps p.tables e below (T.setTop g) target) ∨
    (∃ (q : Addr) (vm₁ : Vm) (B : Pt), s.WarmedH vm₁ ∧ Stand p l e R s m args below meth c B.U B.locs B.cells B.slots ∧ PostX ⟨T.setVm vm₁, locs, cells, slots⟩ argsL.toArray q B ∧
      Steps p.tables e below (T.setTop g) ((B.U.setTop { g with stack := rest }).pushFrame (.throwing q))) := by
  obtain ⟨mk, methM, cM, hnamed, hmethM, -, -, -, -, -, -, hsigM⟩ := Cond.codeWith_spec hcode
  have hstatic : methM.isStatic = true := Cond.static_spec hnamed hmethM hstat
  obtain ⟨kP, hkP, -⟩ := className_of_methodNamed hnamed
  have hinitP : kP.init = .initialized := Cond.initialized_spec (findClass_of_methodNamed hnamed) hkP hinit
  obtain ⟨vm₁, X₁, hstep₁⟩ := X.invokestatic hexec hown hlink hnamed hmethM hstatic hkP hinitP hy (g := g) hg (argsL := argsL) (rest := rest) (hlen _ hsigM) hstack hdg
  rcases hK m meth c ⟨T.setVm vm₁, locs, cells, slots⟩ { g with stack := rest } (.invokestatic index) mk argsL.toArray X₁ hg hsize hdg hW (X₁.named hnamed) (hpre vm₁ X₁.warmed) with ⟨v, B, X', hpost, hsteps⟩ | ⟨q, B, X', hpost, hsteps⟩
  · exact Or.inl ⟨v, vm₁, B, X₁.warmed, X', hpost, fun target h => hstep₁ _ fun acts => by rw [doInvoke_state]; exact hsteps.trans h⟩
  · exact Or.inr ⟨q, vm₁, B, X₁.warmed, X', hpost, hstep₁ _ fun acts => by rw [doInvoke_state]; exact hsteps⟩
theorem vx_callVW (X : Stand p l e R s m args below meth c T locs cells slots) (hexec : p.tables.exec = Jvm.exec) {own C : String} {index : Nat} {y : MethodName} {bytes : ByteArray} {maxL : Nat} {ret : Option FieldType} {hh : List (Nat × Nat × Nat × Nat)}
    (hown : s.vm.findClass own = some m.cls) (hlink : (Cond.methodLink own index y).before args s = true) (hinst : (Cond.instanceMethod y).before args s = true) (hsel : (Cond.selects C y y).before args s = true)
    (hcode : (Cond.codeWith y bytes maxL ret hh).before args s = true) (hy : y.cls ≠ "java/lang/invoke/MethodHandle" ∧ y.cls ≠ "java/lang/invoke/VarHandle")
    {W9 : Nat} {Pre : Pt → Array Value → Prop} {Post : Pt → Array Value → Option Value → Pt → Prop} (hK : Back l R p e below s args y 3 W9 Pre Post)
    {b : Addr} {cellB : Cell} (hcell : T.heap[b]? = some cellB) (hobj : cellB.vm.isStatics = false) (hcls : s.vm.findClass C = some cellB.cls)
    {g : JFrame} (hg : g.method = m) (hsize : g.locals.size = c.maxLocals) {argsL rest : List Value} (hlen : ∀ sig, parseMethodDescriptor y.desc = some sig → argsL.length = sig.parameters.length)
    (hstack : g.stack = argsL.reverse ++ .ref b :: rest) (hW : 2 * g.monitorRoom + (rest.map fun v => v.category).sum ≤ W9) (hdg : decode c.code g.pc = .ok (.invokevirtual index, 3))
    (hpre : ∀ vm₁, s.WarmedH vm₁ → Pre ⟨T.setVm vm₁, locs, cells, slots⟩ (Value.ref b :: argsL).toArray) :
    ∃ (v : Option Value) (vm₁ : Vm) (B : Pt), s.WarmedH vm₁ ∧ Stand p l e R s m args below meth c B.U B.locs B.cells B.slots ∧ Post ⟨T.setVm vm₁, locs, cells, slots⟩ (Value.ref b :: argsL).toArray v B ∧
      ∀ target, Steps p.tables e below (B.U.setTop { g with pc := g.pc + 3, stack := v.toList ++ rest }) target → Steps p.tables e below (T.setTop g) target := by
  obtain ⟨mk, methM, hnamed, hmethM, hstM, habM⟩ := Cond.instanceMethod_spec hinst
  obtain ⟨m8, methM', cM, hn8, hmethM', -, -, -, -, -, -, hsigM⟩ := Cond.codeWith_spec hcode
  cases Option.some.inj (hn8.symm.trans hnamed)
  cases hmethM.symm.trans hmethM'
  obtain ⟨c2, r2, m2, q1, q2, q3, q4, kP, hkP, hkPi⟩ := Cond.selects_spec hsel
  cases hcls.symm.trans q1
  cases (State.methodFound?_of_named hnamed hy).symm.trans q2
  cases hnamed.symm.trans q3
  have hselP : selectMethod e.platform s.vm cellB.cls mk = .method mk := by rw [Launch.admits_selectMethod X.admits]; exact q4
  obtain ⟨vm₁, X₁, hstep₁⟩ := X.invokevirtual hexec hown hlink hnamed hmethM hstM hkP hkPi hy (a := b) (cell := cellB) hcell
    (fun z h => by rw [h] at hobj; cases hobj) hselP hmethM habM hkP hkPi (g := g) hg (argsL := argsL) (rest := rest) (hlen _ hsigM) hstack hdg
  obtain ⟨v, B, X', hpost, hsteps⟩ := hK m meth c ⟨T.setVm vm₁, locs, cells, slots⟩ { g with stack := rest } (.invokevirtual index) mk (Value.ref b :: argsL).toArray X₁ hg hsize hdg hW (X₁.named hnamed) (hpre vm₁ X₁.warmed)
  exact ⟨v, vm₁, B, X₁.warmed, X', hpost, fun target h => hstep₁ _ fun acts => by rw [doInvoke_state]; exact hsteps.trans h⟩
abbrev vx_CVW (R : Room) (s : State) (args : Array Value) (own C : String) (index : Nat) (y : MethodName) (bytes : ByteArray) (maxL : Nat) (ret : Option FieldType) (hh : List (Nat × Nat × Nat × Nat)) (ws : List Cond) (rm : Room) (mc ms n : Nat) : Prop :=
  (rm.cells = mc ∧ rm.slots = ms ∧ rm.frames + 1 ≤ R.frames ∧ 8 + (maxL + 11) + rm.locals ≤ R.locals ∧ (∀ w ∈ ws, ∀ (a' : Array Value) (U : State), s.WarmedH U.vm → w.before a' U = true) ∧ Cond.codeWith y bytes maxL ret hh ∈ ws) ∧
  (Cond.codeWith y bytes maxL ret hh).before args s = true ∧ (Cond.initialized y.cls).before args s = true ∧ (y.cls ≠ "java/lang/invoke/MethodHandle" ∧ y.cls ≠ "java/lang/invoke/VarHandle") ∧
  (∀ sig, parseMethodDescriptor y.desc = some sig → n = sig.parameters.length) ∧ (Cond.methodLink own index y).before args s = true ∧ (Cond.instanceMethod y).before args s = true ∧ (Cond.selects C y y).before args s = true
theorem vx_cwVW {own C : String} {index maxL mc ms : Nat} {y : MethodName} {bytes : ByteArray} {ret : Option FieldType} {hh : List (Nat × Nat × Nat × Nat)} {Ts ws ws' : List Cond} {rm : Room} (n : Nat) (ht : ∀ w ∈ Ts, w.before args s = true) (hT : GoodIn Ts (wsV own index C y ws)) (hw : ws = Cond.codeWith y bytes maxL ret hh :: ws') (hrc : rm.cells = mc) (hrs : rm.slots = ms)
    (hd : y.cls = C ∧ y.cls ≠ "java/lang/invoke/MethodHandle" ∧ y.cls ≠ "java/lang/invoke/VarHandle" ∧ (parseMethodDescriptor y.desc).map (fun d => d.parameters.length) = some n) (hR : rm.frames + 1 ≤ R.frames ∧ 8 + (maxL + 11) + rm.locals ≤ R.locals) :
    vx_CVW R s args own C index y bytes maxL ret hh ws rm mc ms n := by
  obtain ⟨hC, hd⟩ := hd
  subst hC
  have ok : ∀ w ∈ wsV own index y.cls y ws, w.before args s = true := fun w h => ht w (hT w h).1
  have hG : GoodIn Ts ws := fun w h => hT w (by unfold wsV; exact List.mem_append_right _ h)
  have hc : Cond.codeWith y bytes maxL ret hh ∈ ws := by rw [hw]; exact List.mem_cons_self
  refine ⟨⟨hrc, hrs, hR.1, hR.2, pay_in ht hG, hc⟩, ht _ (hG _ hc).1, ok _ (by simp [wsV]), ⟨hd.1, hd.2.1⟩, fun sig h => ?_, ok _ (by simp [wsV]), ok _ (by simp [wsV]), ok _ (by simp [wsV])⟩
  have h2 := hd.2.2
  rw [h] at h2
  exact (Option.some.inj h2).symm
theorem vx_runVW {y : MethodName} {bytes cc : ByteArray} {maxL nL mc ms n index : Nat} {ret : Option FieldType} {hh : List (Nat × Nat × Nat × Nat)} {ws : List Cond} {rm : Room} {Pc : Array Value → State → Prop} {Qc : Array Value → State → Outcome → State → Prop} {free : Addr → Prop} {Ts : List Cond} {own C : String} {b : Addr} {As rest : List Value} {g : JFrame}
    (S : CallFix p m c cc nL s args Ts own) (hM : Met l y ws rm Pc Qc mc ms free) (cw : vx_CVW R s args own C index y bytes maxL ret hh ws rm mc ms n) (hp : PreV s H C b Pc As)
    (hg : g.method = m) (hn : As.length = n) (hsize : g.locals.size = nL) (hstack : g.stack = As.reverse ++ .ref b :: rest) (hW : 2 * g.monitorRoom + (rest.map fun v => v.category).sum ≤ 8) (hdg : decode cc g.pc = .ok (.invokevirtual index, 3)) (hf : cells + mc ≤ R.cells ∧ slots + ms ≤ R.slots) :
    va_Run p l e R s m args below meth c H locs cells slots mc ms g rest (Qc (Value.ref b :: As).toArray) free := by
  obtain ⟨⟨hrc, hrs, hfr, hlo, hws, hcw⟩, hcode, hini, hy, hlen, hl, hin, hse⟩ := cw
  have hK : Back l R p e below s args y 3 8 (PreOf R mc ms Pc) (PostOf Qc mc ms free) := va_backW (hh := hh) (bytes := bytes) (maxL := maxL) (ret := ret) hM hp.1 hrc hrs hfr hlo hws hcw (fun a' U hW => word_at hW (Or.inl (by first | rfl | simp [Cond.onTables, Cond.keeps, Cond.steady])) hini)
  obtain ⟨hx, hb, hml, ho, -⟩ := S
  obtain ⟨-, ⟨cellB, hcB, hoB, hclB⟩, hPc⟩ := hp
  intro T hT X
  obtain ⟨v, vm₁, ⟨U', l2, c2, s2⟩, hW₁, X', ⟨g', mk, t, L, e1, e2, hq, h1, hL, h2, h3⟩, st⟩ := vx_callVW X hx (C := C) (hh := hh) (bytes := bytes) (maxL := maxL) (ret := ret) ho hl hin hse hcode hy hK (by rw [hT]; exact hcB) hoB hclB hg (hsize.trans hml.symm) (argsL := As) (rest := rest) (fun sig h => hn.trans (hlen sig h)) hstack hW (by rw [hb]; exact hdg)
    (fun vm₁ hW₁ => ⟨hf.1, hf.2, hPc (T.setVm vm₁) hT hW₁⟩)
  dsimp only [Pt.U, Pt.locs, Pt.cells, Pt.slots] at X' e1 e2 h1 h2 h3 st
  subst h1; subst h2; subst h3
  exact ⟨v, (T.setVm vm₁).calling g' mk (Value.ref b :: As).toArray, t, U', L, hT, X', hL, e1, e2, hq, st⟩
section
variable {y : MethodName} {bytes cc : ByteArray} {maxL nL mc ms n index : Nat} {ret : Option FieldType} {ws : List Cond} {rm : Room} {Pc : Array Value → State → Prop} {Qc : Array Value → State → Outcome → State → Prop} {XC : String → State → State → Prop} {free : Addr → Prop} {Ts : List Cond} {own C : String} {b : Addr} {As rest : List Value} {g : JFrame}
theorem vx_runVX {hh : List (Nat × Nat × Nat × Nat)} (S : CallFix p m c cc nL s args Ts own) (hM : vx_Met l y ws rm Pc Qc XC mc ms free) (cw : vx_CVW R s args own C index y bytes maxL ret hh ws rm mc ms n) (hp : PreV s H C b Pc As)
    (hg : g.method = m) (hn : As.length = n) (hsize : g.locals.size = nL) (hstack : g.stack = As.reverse ++ .ref b :: rest) (hW : 2 * g.monitorRoom + (rest.map fun v => v.category).sum ≤ 8) (hdg : decode cc g.pc = .ok (.invokevirtual index, 3)) (hf : cells + mc ≤ R.cells ∧ slots + ms ≤ R.slots) :
    vx_Run p l e R s m args below meth c H locs cells slots mc ms g rest (Qc (Value.ref b :: As).toArray) XC free := by
  obtain ⟨⟨hrc, hrs, hfr, hlo, hws, hcw⟩, hcode, hini, hy, hlen, hl, hin, hse⟩ := cw
  have hK : vx_Back l R p e below s args y 3 8 (PreOf R mc ms Pc) (PostOf Qc mc ms free) (vx_Post XC mc ms free) := vx_backW (hh := hh) (bytes := bytes) (maxL := maxL) (ret := ret) hM hp.1 hrc hrs hfr hlo hws hcw (fun a' U hW => word_at hW (Or.inl (by first | rfl | simp [Cond.onTables, Cond.keeps, Cond.steady])) hini)
  obtain ⟨hx, hb, hml, ho, -⟩ := S
  obtain ⟨-, ⟨cellB, hcB, hoB, hclB⟩, hPc⟩ := hp
  intro T hT X
  rcases vx_callVX X hx (C := C) (hh := hh) (bytes := bytes) (maxL := maxL) (ret := ret) ho hl hin hse hcode hy hK (by rw [hT]; exact hcB) hoB hclB hg (hsize.trans hml.symm) (argsL := As) (rest := rest) (fun sig h => hn.trans (hlen sig h)) hstack hW (by rw [hb]; exact hdg)
    (fun vm₁ hW₁ => ⟨hf.1, hf.2, hPc (T.setVm vm₁) hT hW₁⟩) with ⟨v, vm₁, ⟨U', l2, c2, s2⟩, hW₁, X', ⟨g', mk, t, L, e1, e2, hq, h1, hL, h2, h3⟩, st⟩ | ⟨q, vm₁, ⟨U', l2, c2, s2⟩, hW₁, X', ⟨g', mk, t, L, E, ce, e1, e2, hq, hce, hcv, hcl, h1, hL, h2, h3⟩, st⟩
  · dsimp only [Pt.U, Pt.locs, Pt.cells, Pt.slots] at X' e1 e2 h1 h2 h3 st
    subst h1; subst h2; subst h3
    exact Or.inl ⟨v, (T.setVm vm₁).calling g' mk (Value.ref b :: As).toArray, t, U', L, hT, X', hL, e1, e2, hq, st⟩
  · dsimp only [Pt.U, Pt.locs, Pt.cells, Pt.slots] at X' e1 e2 h1 h2 h3 st hcl
    subst h1; subst h2; subst h3
    exact Or.inr ⟨q, (T.setVm vm₁).calling g' mk (Value.ref b :: As).toArray, t, U', L, E, ce, hT, X', hL, e1, e2, hq, hce, hcv, vx_cls hW₁ hcl, st⟩
theorem vx_runSX {hh : List (Nat × Nat × Nat × Nat)} (S : CallFix p m c cc nL s args Ts own) (hM : vx_Met l y ws rm Pc Qc XC mc ms free) (cw : vx_CSW R s args own index y bytes maxL ret hh ws rm mc ms n) (hp : PreS s H Pc As)
    (hg : g.method = m) (hn : As.length = n) (hsize : g.locals.size = nL) (hstack : g.stack = As.reverse ++ rest) (hW : 2 * g.monitorRoom + (rest.map fun v => v.category).sum ≤ 8) (hdg : decode cc g.pc = .ok (.invokestatic index, 3)) (hf : cells + mc ≤ R.cells ∧ slots + ms ≤ R.slots) :
    vx_Run p l e R s m args below meth c H locs cells slots mc ms g rest (Qc As.toArray) XC free := by
  obtain ⟨⟨hrc, hrs, hfr, hlo, hws, hcw⟩, hcode, hini, hy, hlen, hl, hstt⟩ := cw
  have hK : vx_Back l R p e below s args y 3 8 (PreOf R mc ms Pc) (PostOf Qc mc ms free) (vx_Post XC mc ms free) := vx_backW (hh := hh) (bytes := bytes) (maxL := maxL) (ret := ret) hM hp.1 hrc hrs hfr hlo hws hcw (fun a' U hW => word_at hW (Or.inl (by first | rfl | simp [Cond.onTables, Cond.keeps, Cond.steady])) hini)
  obtain ⟨hx, hb, hml, ho, -⟩ := S
  intro T hT X
  rcases vx_callSX X hx (hh := hh) (bytes := bytes) (maxL := maxL) (ret := ret) ho hl hstt hini hcode hy hK hg (hsize.trans hml.symm) (argsL := As) (rest := rest) (fun sig h => hn.trans (hlen sig h)) hstack hW (by rw [hb]; exact hdg)
    (fun vm₁ hW₁ => ⟨hf.1, hf.2, hp.2 (T.setVm vm₁) hT hW₁⟩) with ⟨v, vm₁, ⟨U', l2, c2, s2⟩, hW₁, X', ⟨g', mk, t, L, e1, e2, hq, h1, hL, h2, h3⟩, st⟩ | ⟨q, vm₁, ⟨U', l2, c2, s2⟩, hW₁, X', ⟨g', mk, t, L, E, ce, e1, e2, hq, hce, hcv, hcl, h1, hL, h2, h3⟩, st⟩
  · dsimp only [Pt.U, Pt.locs, Pt.cells, Pt.slots] at X' e1 e2 h1 h2 h3 st
    subst h1; subst h2; subst h3
    exact Or.inl ⟨v, (T.setVm vm₁).calling g' mk As.toArray, t, U', L, hT, X', hL, e1, e2, hq, st⟩
  · dsimp only [Pt.U, Pt.locs, Pt.cells, Pt.slots] at X' e1 e2 h1 h2 h3 st hcl
    subst h1; subst h2; subst h3
    exact Or.inr ⟨q, (T.setVm vm₁).calling g' mk As.toArray, t, U', L, E, ce, hT, X', hL, e1, e2, hq, hce, hcv, vx_cls hW₁ hcl, st⟩
end
end VXH
theorem vx_ofWH {l : Launch} {y : MethodName} {ws ws' : List Cond} {rm : Room} {Pc : Array Value → State → Prop} {Qc : Array Value → State → Outcome → State → Prop} {XC : String → State → State → Prop} {mc ms : Nat} {free : Addr → Prop} {cc : ByteArray} {maxL : Nat} {ret : Option FieldType} {hh : List (Nat × Nat × Nat × Nat)}
    (hy : plainName y.cls = true) (hw : ws = Cond.codeWith y cc maxL ret hh :: ws')
    (body : ∀ p e s m args below meth c s₁, BodyLoose p l y (headSpec ws rm) cc maxL ret e s m args below meth c s₁ → c.maxLocals = maxL → Pc args s →
      W p l e (headSpec ws rm).room s m args below meth c s.heap [] 0 0 (vx_MQ below Qc XC args s mc ms free) (entryFrame m args maxL)) : vx_Met l y ws rm Pc Qc XC mc ms free := by
  refine MetFree.of_bodyS (code := cc) (maxLocals := maxL) (ret := ret) hy ?_ ?_
  · intro args s m h hn
    obtain ⟨m9, meth, c, hn9, h1, h2, h3, h4, -, h5, h6, -⟩ := Cond.codeWith_spec (atoms_spec (ws := ws) h _ (by rw [hw]; exact List.mem_cons_self))
    cases hn.symm.trans hn9
    exact ⟨meth, c, h1, h2, h3, h4, h5, h6⟩
  · intro p e s m args below meth c s₁ B hml hP _
    have hh0 : s₁.heap = s.heap := by rw [B.state]; rfl
    obtain ⟨t, a1, o, b1, b2, b3⟩ := body p e s m args below meth c s₁ B hml hP s₁ hh0 (Stand.of_body B)
    exact ⟨t, o, a1, b1, b2, b3⟩
/-! ===== END ===== -/
end
section
/-! ===== BEGIN printed: names, fields, word lists, decode rows ===== -/
def RX0 : String := "SightLegend$Box"
def TX0 : u_T := fun k => match k with
  | 0 => ("SightLegend$Box", "corner", "I", false)
  | 1 => ("SightLegend$Box", "left", "I", false)
  | 2 => ("SightLegend$Box", "top", "I", false)
  | 3 => ("SightLegend$Box", "width", "I", false)
  | 4 => ("SightLegend$Box", "height", "I", false)
  | _ => ("SightLegend$Box", "covered", "I", false)
def tyX0 : Nat → FieldType := fun k => match k with
  | 0 => .int
  | 1 => .int
  | 2 => .int
  | 3 => .int
  | 4 => .int
  | _ => .int
abbrev wsX00 : List Cond := u_ws RX0 TX0 6
theorem nmX0 : ∀ a, a < 6 → ∀ b, b < 6 → a ≠ b → (TX0 a).2.1 ≠ (TX0 b).2.1 := by decide +kernel
theorem tyX0_ok : ∀ k, k < 6 → parseFieldDescriptor (TX0 k).2.2.1 = some (tyX0 k) := by decide +kernel
abbrev cX0_init : ByteArray := prog_2_method_1_code
def yX0_init : MethodName := ⟨RX0, "<init>", "()V"⟩
abbrev cX0_place : ByteArray := prog_2_method_2_code
def yX0_place : MethodName := ⟨RX0, "place", "(LSightLegend$MapState;LSightLegend$Lines;[Z)V"⟩
abbrev cX0_vanish : ByteArray := prog_2_method_3_code
def yX0_vanish : MethodName := ⟨RX0, "vanish", "()V"⟩
abbrev cX0_moveTo : ByteArray := prog_2_method_4_code
def yX0_moveTo : MethodName := ⟨RX0, "moveTo", "(LSightLegend$MapState;I)V"⟩
abbrev cX0_countCovered : ByteArray := prog_2_method_5_code
def yX0_countCovered : MethodName := ⟨RX0, "countCovered", "(LSightLegend$MapState;[Z)I"⟩
abbrev cX0_covers : ByteArray := prog_2_method_6_code
def yX0_covers : MethodName := ⟨RX0, "covers", "(LSightLegend$MapState;I)Z"⟩
abbrev cX0_fact : ByteArray := prog_2_method_7_code
def yX0_fact : MethodName := ⟨RX0, "fact", "(I)I"⟩
def RX1 : String := "SightLegend$Legend"
def TX1 : u_T := fun k => match k with
  | 0 => ("SightLegend$Legend", "stands", "Z", false)
  | 1 => ("SightLegend$Legend", "shown", "[Z", true)
  | 2 => ("SightLegend$Legend", "inSight", "[Z", true)
  | 3 => ("SightLegend$Legend", "shownCount", "I", false)
  | 4 => ("SightLegend$Legend", "explainedCount", "I", false)
  | 5 => ("SightLegend$Legend", "ranges", "LSightLegend$Ranges;", true)
  | 6 => ("SightLegend$Legend", "now", "LSightLegend$Lines;", true)
  | 7 => ("SightLegend$Legend", "before", "LSightLegend$Lines;", true)
  | 8 => ("SightLegend$Legend", "box", "LSightLegend$Box;", true)
  | 9 => ("SightLegend$Legend", "roundCount", "I", false)
  | 10 => ("SightLegend$Legend", "stays", "Z", false)
  | _ => ("SightLegend$Legend", "firstLineCount", "I", false)
def tyX1 : Nat → FieldType := fun k => match k with
  | 0 => .boolean
  | 1 => .array .boolean
  | 2 => .array .boolean
  | 3 => .int
  | 4 => .int
  | 5 => .object "SightLegend$Ranges"
  | 6 => .object "SightLegend$Lines"
  | 7 => .object "SightLegend$Lines"
  | 8 => .object "SightLegend$Box"
  | 9 => .int
  | 10 => .boolean
  | _ => .int
abbrev wsX10 : List Cond := u_ws RX1 TX1 12
theorem nmX1 : ∀ a, a < 12 → ∀ b, b < 12 → a ≠ b → (TX1 a).2.1 ≠ (TX1 b).2.1 := by decide +kernel
theorem tyX1_ok : ∀ k, k < 12 → parseFieldDescriptor (TX1 k).2.2.1 = some (tyX1 k) := by decide +kernel
abbrev cX1_init : ByteArray := prog_3_method_1_code
def yX1_init : MethodName := ⟨RX1, "<init>", "()V"⟩
abbrev cX1_make : ByteArray := prog_3_method_2_code
def yX1_make : MethodName := ⟨RX1, "make", "(LSightLegend$MapState;)V"⟩
abbrev cX1_seeAllShown : ByteArray := prog_3_method_3_code
def yX1_seeAllShown : MethodName := ⟨RX1, "seeAllShown", "(LSightLegend$MapState;)V"⟩
abbrev cX1_hideCovered : ByteArray := prog_3_method_4_code
def yX1_hideCovered : MethodName := ⟨RX1, "hideCovered", "(LSightLegend$MapState;)V"⟩
abbrev cX1_makeRound : ByteArray := prog_3_method_5_code
def yX1_makeRound : MethodName := ⟨RX1, "makeRound", "(LSightLegend$MapState;I)V"⟩
abbrev cX1_countCoveredInSight : ByteArray := prog_3_method_6_code
def yX1_countCoveredInSight : MethodName := ⟨RX1, "countCoveredInSight", "(LSightLegend$MapState;)I"⟩
abbrev cX1_lineOf : ByteArray := prog_3_method_7_code
def yX1_lineOf : MethodName := ⟨RX1, "lineOf", "(LSightLegend$MapState;I)I"⟩
def RX2 : String := "SightLegend$Lines"
def TX2 : u_T := fun k => match k with
  | 0 => ("SightLegend$Lines", "size", "I", false)
  | 1 => ("SightLegend$Lines", "type", "[I", true)
  | 2 => ("SightLegend$Lines", "kind", "[I", true)
  | 3 => ("SightLegend$Lines", "group", "[I", true)
  | 4 => ("SightLegend$Lines", "first", "[I", true)
  | 5 => ("SightLegend$Lines", "last", "[I", true)
  | 6 => ("SightLegend$Lines", "signs", "[I", true)
  | 7 => ("SightLegend$Lines", "column", "[I", true)
  | 8 => ("SightLegend$Lines", "place", "[I", true)
  | 9 => ("SightLegend$Lines", "usedColumns", "I", false)
  | 10 => ("SightLegend$Lines", "tallest", "I", false)
  | 11 => ("SightLegend$Lines", "order", "[I", true)
  | 12 => ("SightLegend$Lines", "orderSize", "I", false)
  | _ => ("SightLegend$Lines", "groupDone", "[Z", true)
def tyX2 : Nat → FieldType := fun k => match k with
  | 0 => .int
  | 1 => .array .int
  | 2 => .array .int
  | 3 => .array .int
  | 4 => .array .int
  | 5 => .array .int
  | 6 => .array .int
  | 7 => .array .int
  | 8 => .array .int
  | 9 => .int
  | 10 => .int
  | 11 => .array .int
  | 12 => .int
  | _ => .array .boolean
abbrev wsX20 : List Cond := u_ws RX2 TX2 14
theorem nmX2 : ∀ a, a < 14 → ∀ b, b < 14 → a ≠ b → (TX2 a).2.1 ≠ (TX2 b).2.1 := by decide +kernel
theorem tyX2_ok : ∀ k, k < 14 → parseFieldDescriptor (TX2 k).2.2.1 = some (tyX2 k) := by decide +kernel
abbrev cX2_init : ByteArray := prog_4_method_1_code
def yX2_init : MethodName := ⟨RX2, "<init>", "()V"⟩
abbrev cX2_copyFrom : ByteArray := prog_4_method_2_code
def yX2_copyFrom : MethodName := ⟨RX2, "copyFrom", "(LSightLegend$Lines;)V"⟩
abbrev cX2_isSameAs : ByteArray := prog_4_method_3_code
def yX2_isSameAs : MethodName := ⟨RX2, "isSameAs", "(LSightLegend$Lines;)Z"⟩
abbrev cX2_compose : ByteArray := prog_4_method_4_code
def yX2_compose : MethodName := ⟨RX2, "compose", "(LSightLegend$MapState;LSightLegend$Ranges;)V"⟩
abbrev cX2_orderKinds : ByteArray := prog_4_method_5_code
def yX2_orderKinds : MethodName := ⟨RX2, "orderKinds", "(LSightLegend$MapState;LSightLegend$Ranges;)V"⟩
abbrev cX2_addGroup : ByteArray := prog_4_method_6_code
def yX2_addGroup : MethodName := ⟨RX2, "addGroup", "(LSightLegend$MapState;ILSightLegend$Ranges;)V"⟩
abbrev cX2_addKindLines : ByteArray := prog_4_method_7_code
def yX2_addKindLines : MethodName := ⟨RX2, "addKindLines", "(IILSightLegend$Ranges;)V"⟩
abbrev cX2_add : ByteArray := prog_4_method_8_code
def yX2_add : MethodName := ⟨RX2, "add", "(IIIIII)V"⟩
abbrev cX2_layOut : ByteArray := prog_4_method_9_code
def yX2_layOut : MethodName := ⟨RX2, "layOut", "(I)V"⟩
abbrev cX2_countOfKind : ByteArray := prog_4_method_10_code
def yX2_countOfKind : MethodName := ⟨RX2, "countOfKind", "(I)I"⟩
abbrev cX2_fact : ByteArray := prog_4_method_11_code
def yX2_fact : MethodName := ⟨RX2, "fact", "(II)I"⟩
def RX3 : String := "SightLegend$MapState"
def TX3 : u_T := fun k => match k with
  | 0 => ("SightLegend$MapState", "signKind", "[I", true)
  | 1 => ("SightLegend$MapState", "signColumn", "[I", true)
  | 2 => ("SightLegend$MapState", "signRow", "[I", true)
  | 3 => ("SightLegend$MapState", "signValue", "[I", true)
  | 4 => ("SightLegend$MapState", "signLevel", "[I", true)
  | 5 => ("SightLegend$MapState", "signCount", "I", false)
  | 6 => ("SightLegend$MapState", "rank", "[I", true)
  | 7 => ("SightLegend$MapState", "group", "[I", true)
  | 8 => ("SightLegend$MapState", "limitCount", "[I", true)
  | 9 => ("SightLegend$MapState", "limits", "[I", true)
  | 10 => ("SightLegend$MapState", "way", "[I", true)
  | 11 => ("SightLegend$MapState", "window", "[I", true)
  | _ => ("SightLegend$MapState", "settings", "[I", true)
def tyX3 : Nat → FieldType := fun k => match k with
  | 0 => .array .int
  | 1 => .array .int
  | 2 => .array .int
  | 3 => .array .int
  | 4 => .array .int
  | 5 => .int
  | 6 => .array .int
  | 7 => .array .int
  | 8 => .array .int
  | 9 => .array .int
  | 10 => .array .int
  | 11 => .array .int
  | _ => .array .int
abbrev wsX30 : List Cond := u_ws RX3 TX3 13
theorem nmX3 : ∀ a, a < 13 → ∀ b, b < 13 → a ≠ b → (TX3 a).2.1 ≠ (TX3 b).2.1 := by decide +kernel
theorem tyX3_ok : ∀ k, k < 13 → parseFieldDescriptor (TX3 k).2.2.1 = some (tyX3 k) := by decide +kernel
abbrev cX3_init : ByteArray := prog_5_method_1_code
def yX3_init : MethodName := ⟨RX3, "<init>", "()V"⟩
abbrev cX3_copyFrom : ByteArray := prog_5_method_2_code
def yX3_copyFrom : MethodName := ⟨RX3, "copyFrom", "(LSightLegend$MapState;)V"⟩
abbrev cX3_takeSigns : ByteArray := prog_5_method_3_code
def yX3_takeSigns : MethodName := ⟨RX3, "takeSigns", "(LSightLegend$MapState;)V"⟩
abbrev cX3_putSign : ByteArray := prog_5_method_4_code
def yX3_putSign : MethodName := ⟨RX3, "putSign", "(IIIII)V"⟩
abbrev cX3_dropSign : ByteArray := prog_5_method_5_code
def yX3_dropSign : MethodName := ⟨RX3, "dropSign", "(I)V"⟩
abbrev cX3_isInWindow : ByteArray := prog_5_method_6_code
def yX3_isInWindow : MethodName := ⟨RX3, "isInWindow", "(I)Z"⟩
abbrev cX3_isShown : ByteArray := prog_5_method_7_code
def yX3_isShown : MethodName := ⟨RX3, "isShown", "(I)Z"⟩
abbrev cX3_countShown : ByteArray := prog_5_method_8_code
def yX3_countShown : MethodName := ⟨RX3, "countShown", "()I"⟩
abbrev cX3_classOf : ByteArray := prog_5_method_9_code
def yX3_classOf : MethodName := ⟨RX3, "classOf", "(I)I"⟩
abbrev cX3_limitAt : ByteArray := prog_5_method_10_code
def yX3_limitAt : MethodName := ⟨RX3, "limitAt", "(II)I"⟩
abbrev cX3_hasLimit : ByteArray := prog_5_method_11_code
def yX3_hasLimit : MethodName := ⟨RX3, "hasLimit", "(II)Z"⟩
abbrev cX3_putLimit : ByteArray := prog_5_method_12_code
def yX3_putLimit : MethodName := ⟨RX3, "putLimit", "(II)V"⟩
abbrev cX3_dropLimit : ByteArray := prog_5_method_13_code
def yX3_dropLimit : MethodName := ⟨RX3, "dropLimit", "(II)V"⟩
def RX4 : String := "SightLegend$Ranges"
def TX4 : u_T := fun k => match k with
  | 0 => ("SightLegend$Ranges", "total", "[I", true)
  | 1 => ("SightLegend$Ranges", "classSigns", "[I", true)
  | 2 => ("SightLegend$Ranges", "size", "[I", true)
  | 3 => ("SightLegend$Ranges", "first", "[I", true)
  | 4 => ("SightLegend$Ranges", "last", "[I", true)
  | _ => ("SightLegend$Ranges", "signs", "[I", true)
def tyX4 : Nat → FieldType := fun k => match k with
  | 0 => .array .int
  | 1 => .array .int
  | 2 => .array .int
  | 3 => .array .int
  | 4 => .array .int
  | _ => .array .int
abbrev wsX40 : List Cond := u_ws RX4 TX4 6
theorem nmX4 : ∀ a, a < 6 → ∀ b, b < 6 → a ≠ b → (TX4 a).2.1 ≠ (TX4 b).2.1 := by decide +kernel
theorem tyX4_ok : ∀ k, k < 6 → parseFieldDescriptor (TX4 k).2.2.1 = some (tyX4 k) := by decide +kernel
abbrev cX4_init : ByteArray := prog_6_method_1_code
def yX4_init : MethodName := ⟨RX4, "<init>", "()V"⟩
abbrev cX4_build : ByteArray := prog_6_method_2_code
def yX4_build : MethodName := ⟨RX4, "build", "(LSightLegend$MapState;[Z)V"⟩
abbrev cX4_countSigns : ByteArray := prog_6_method_3_code
def yX4_countSigns : MethodName := ⟨RX4, "countSigns", "(LSightLegend$MapState;[Z)V"⟩
abbrev cX4_takeClasses : ByteArray := prog_6_method_4_code
def yX4_takeClasses : MethodName := ⟨RX4, "takeClasses", "(I)V"⟩
abbrev cX4_joinFewest : ByteArray := prog_6_method_5_code
def yX4_joinFewest : MethodName := ⟨RX4, "joinFewest", "(I)V"⟩
def RX5 : String := "SightLegend$SignText"
def TX5 : u_T := fun k => match k with
  | 0 => ("SightLegend$SignText", "bytes", "[I", true)
  | 1 => ("SightLegend$SignText", "length", "I", false)
  | 2 => ("SightLegend$SignText", "signs", "LSightLegend$MapState;", true)
  | 3 => ("SightLegend$SignText", "error", "I", false)
  | _ => ("SightLegend$SignText", "at", "I", false)
def tyX5 : Nat → FieldType := fun k => match k with
  | 0 => .array .int
  | 1 => .int
  | 2 => .object "SightLegend$MapState"
  | 3 => .int
  | _ => .int
abbrev wsX50 : List Cond := u_ws RX5 TX5 5
theorem nmX5 : ∀ a, a < 5 → ∀ b, b < 5 → a ≠ b → (TX5 a).2.1 ≠ (TX5 b).2.1 := by decide +kernel
theorem tyX5_ok : ∀ k, k < 5 → parseFieldDescriptor (TX5 k).2.2.1 = some (tyX5 k) := by decide +kernel
abbrev cX5_init : ByteArray := prog_7_method_1_code
def yX5_init : MethodName := ⟨RX5, "<init>", "()V"⟩
def RX6 : String := "SightLegend"
def TX6 : u_T := fun k => match k with
  | 0 => ("SightLegend", "map", "LSightLegend$MapState;", true)
  | 1 => ("SightLegend", "legend", "LSightLegend$Legend;", true)
  | 2 => ("SightLegend", "otherMap", "LSightLegend$MapState;", true)
  | 3 => ("SightLegend", "otherLegend", "LSightLegend$Legend;", true)
  | 4 => ("SightLegend", "text", "LSightLegend$SignText;", true)
  | 5 => ("SightLegend", "saved", "[LSightLegend$MapState;", true)
  | 6 => ("SightLegend", "oldestSaved", "I", false)
  | _ => ("SightLegend", "savedCount", "I", false)
def tyX6 : Nat → FieldType := fun k => match k with
  | 0 => .object "SightLegend$MapState"
  | 1 => .object "SightLegend$Legend"
  | 2 => .object "SightLegend$MapState"
  | 3 => .object "SightLegend$Legend"
  | 4 => .object "SightLegend$SignText"
  | 5 => .array (.object "SightLegend$MapState")
  | 6 => .int
  | _ => .int
abbrev wsX60 : List Cond := u_ws RX6 TX6 8
theorem nmX6 : ∀ a, a < 8 → ∀ b, b < 8 → a ≠ b → (TX6 a).2.1 ≠ (TX6 b).2.1 := by decide +kernel
theorem tyX6_ok : ∀ k, k < 8 → parseFieldDescriptor (TX6 k).2.2.1 = some (tyX6 k) := by decide +kernel
abbrev cX6_init : ByteArray := prog_1_method_1_code
def yX6_init : MethodName := ⟨RX6, "<init>", "()V"⟩
abbrev cX6_addSign : ByteArray := prog_1_method_2_code
def yX6_addSign : MethodName := ⟨RX6, "addSign", "(IIIII)I"⟩
abbrev cX6_removeSign : ByteArray := prog_1_method_3_code
def yX6_removeSign : MethodName := ⟨RX6, "removeSign", "(I)I"⟩
abbrev cX6_moveSign : ByteArray := prog_1_method_4_code
def yX6_moveSign : MethodName := ⟨RX6, "moveSign", "(III)I"⟩
abbrev cX6_setWindow : ByteArray := prog_1_method_5_code
def yX6_setWindow : MethodName := ⟨RX6, "setWindow", "(IIIII)I"⟩
abbrev cX6_set : ByteArray := prog_1_method_6_code
def yX6_set : MethodName := ⟨RX6, "set", "(II)I"⟩
abbrev cX6_setKind : ByteArray := prog_1_method_7_code
def yX6_setKind : MethodName := ⟨RX6, "setKind", "(III)I"⟩
abbrev cX6_setWay : ByteArray := prog_1_method_8_code
def yX6_setWay : MethodName := ⟨RX6, "setWay", "(II)I"⟩
abbrev cX6_limit : ByteArray := prog_1_method_9_code
def yX6_limit : MethodName := ⟨RX6, "limit", "(II)I"⟩
abbrev cX6_value : ByteArray := prog_1_method_10_code
def yX6_value : MethodName := ⟨RX6, "value", "(I)I"⟩
abbrev cX6_sign : ByteArray := prog_1_method_11_code
def yX6_sign : MethodName := ⟨RX6, "sign", "(II)I"⟩
abbrev cX6_kind : ByteArray := prog_1_method_12_code
def yX6_kind : MethodName := ⟨RX6, "kind", "(II)I"⟩
abbrev cX6_lines : ByteArray := prog_1_method_13_code
def yX6_lines : MethodName := ⟨RX6, "lines", "()I"⟩
abbrev cX6_line : ByteArray := prog_1_method_14_code
def yX6_line : MethodName := ⟨RX6, "line", "(II)I"⟩
abbrev cX6_box : ByteArray := prog_1_method_15_code
def yX6_box : MethodName := ⟨RX6, "box", "(I)I"⟩
abbrev cX6_rounds : ByteArray := prog_1_method_16_code
def yX6_rounds : MethodName := ⟨RX6, "rounds", "(I)I"⟩
abbrev cX6_firstLines : ByteArray := prog_1_method_17_code
def yX6_firstLines : MethodName := ⟨RX6, "firstLines", "()I"⟩
abbrev cX6_explained : ByteArray := prog_1_method_18_code
def yX6_explained : MethodName := ⟨RX6, "explained", "()D"⟩
abbrev cX6_saveState : ByteArray := prog_1_method_31_code
def yX6_saveState : MethodName := ⟨RX6, "saveState", "()V"⟩
abbrev cX6_numberOf : ByteArray := prog_1_method_32_code
def yX6_numberOf : MethodName := ⟨RX6, "numberOf", "(I)I"⟩
abbrev cX6_signFact : ByteArray := prog_1_method_33_code
def yX6_signFact : MethodName := ⟨RX6, "signFact", "(II)I"⟩
abbrev cX6_kindFact : ByteArray := prog_1_method_34_code
def yX6_kindFact : MethodName := ⟨RX6, "kindFact", "(II)I"⟩
abbrev cX6_roundFact : ByteArray := prog_1_method_35_code
def yX6_roundFact : MethodName := ⟨RX6, "roundFact", "(I)I"⟩
abbrev cX6_demandSign : ByteArray := prog_1_method_36_code
def yX6_demandSign : MethodName := ⟨RX6, "demandSign", "(I)V"⟩
abbrev cX6_demandKind : ByteArray := prog_1_method_37_code
def yX6_demandKind : MethodName := ⟨RX6, "demandKind", "(I)V"⟩
abbrev cX6_demandBelow : ByteArray := prog_1_method_38_code
def yX6_demandBelow : MethodName := ⟨RX6, "demandBelow", "(II)V"⟩
abbrev cX6_demandSpan : ByteArray := prog_1_method_39_code
def yX6_demandSpan : MethodName := ⟨RX6, "demandSpan", "(I)V"⟩
def RX7 : String := "SightLegendModel"
def TX7 : u_T := fun k => match k with
  | _ => ("", "", "", false)
def tyX7 : Nat → FieldType := fun k => match k with
  | _ => .int
abbrev wsX70 : List Cond := u_ws RX7 TX7 0
theorem nmX7 : ∀ a, a < 0 → ∀ b, b < 0 → a ≠ b → (TX7 a).2.1 ≠ (TX7 b).2.1 := by decide +kernel
theorem tyX7_ok : ∀ k, k < 0 → parseFieldDescriptor (TX7 k).2.2.1 = some (tyX7 k) := by decide +kernel
def RJ9 : String := "java/lang/Math"
def TJ9 : u_T := fun k => match k with
  | _ => ("", "", "", false)
def tyJ9 : Nat → FieldType := fun k => match k with
  | _ => .int
abbrev wsJ90 : List Cond := u_ws RJ9 TJ9 0
theorem nmJ9 : ∀ a, a < 0 → ∀ b, b < 0 → a ≠ b → (TJ9 a).2.1 ≠ (TJ9 b).2.1 := by decide +kernel
theorem tyJ9_ok : ∀ k, k < 0 → parseFieldDescriptor (TJ9 k).2.2.1 = some (tyJ9 k) := by decide +kernel
abbrev cJ9_max_7cf53 : ByteArray := prog_14_method_65_code
def yJ9_max_7cf53 : MethodName := ⟨RJ9, "max", "(II)I"⟩
abbrev cJ9_min_7cf53 : ByteArray := prog_14_method_69_code
def yJ9_min_7cf53 : MethodName := ⟨RJ9, "min", "(II)I"⟩
def RJ0 : String := "java/lang/String"
def TJ0 : u_T := fun k => match k with
  | _ => ("", "", "", false)
def tyJ0 : Nat → FieldType := fun k => match k with
  | _ => .int
abbrev wsJ00 : List Cond := u_ws RJ0 TJ0 0
theorem nmJ0 : ∀ a, a < 0 → ∀ b, b < 0 → a ≠ b → (TJ0 a).2.1 ≠ (TJ0 b).2.1 := by decide +kernel
theorem tyJ0_ok : ∀ k, k < 0 → parseFieldDescriptor (TJ0 k).2.2.1 = some (tyJ0 k) := by decide +kernel
def RJ10 : String := "java/lang/System"
def TJ10 : u_T := fun k => match k with
  | _ => ("", "", "", false)
def tyJ10 : Nat → FieldType := fun k => match k with
  | _ => .int
abbrev wsJ100 : List Cond := u_ws RJ10 TJ10 0
theorem nmJ10 : ∀ a, a < 0 → ∀ b, b < 0 → a ≠ b → (TJ10 a).2.1 ≠ (TJ10 b).2.1 := by decide +kernel
theorem tyJ10_ok : ∀ k, k < 0 → parseFieldDescriptor (TJ10 k).2.2.1 = some (tyJ10 k) := by decide +kernel
def RL : String := "SightLegendLaw"
abbrev cL_cell : ByteArray := method_2_code
def yL_cell : MethodName := ⟨RL, "cell", "([II)I"⟩
abbrev cL_low : ByteArray := method_3_code
def yL_low : MethodName := ⟨RL, "low", "(II)I"⟩
abbrev cL_classOf : ByteArray := method_4_code
def yL_classOf : MethodName := ⟨RL, "classOf", "([I[II)I"⟩
abbrev cL_within : ByteArray := method_5_code
def yL_within : MethodName := ⟨RL, "within", "([I[II)Z"⟩
abbrev cL_shown : ByteArray := method_6_code
def yL_shown : MethodName := ⟨RL, "shown", "([I[I)I"⟩
abbrev cL_bits : ByteArray := method_7_code
def yL_bits : MethodName := ⟨RL, "bits", "(I)I"⟩
abbrev cL_key : ByteArray := method_8_code
def yL_key : MethodName := ⟨RL, "key", "([II)I"⟩
abbrev cL_block : ByteArray := method_9_code
def yL_block : MethodName := ⟨RL, "block", "([III)I"⟩
abbrev cL_member : ByteArray := method_10_code
def yL_member : MethodName := ⟨RL, "member", "([III)I"⟩
abbrev cL_code : ByteArray := method_11_code
def yL_code : MethodName := ⟨RL, "code", "(IIIII)I"⟩
abbrev cL_signs : ByteArray := method_12_code
def yL_signs : MethodName := ⟨RL, "signs", "([I[IIIII)I"⟩
abbrev cL_linesOf : ByteArray := method_13_code
def yL_linesOf : MethodName := ⟨RL, "linesOf", "([I[I[I[III)I"⟩
abbrev cL_lists : ByteArray := method_14_code
def yL_lists : MethodName := ⟨RL, "lists", "([I[I[I[I)V"⟩
abbrev cL_covered : ByteArray := method_15_code
def yL_covered : MethodName := ⟨RL, "covered", "([I[I[I)I"⟩
abbrev cL_place : ByteArray := method_16_code
def yL_place : MethodName := ⟨RL, "place", "([I[II)I"⟩
abbrev cL_box : ByteArray := method_17_code
def yL_box : MethodName := ⟨RL, "box", "([I[I[I)V"⟩
abbrev cL_legend : ByteArray := method_18_code
def yL_legend : MethodName := ⟨RL, "legend", "([I[I[I[I)V"⟩
abbrev cL_closes : ByteArray := method_19_code
def yL_closes : MethodName := ⟨RL, "closes", "([II)V"⟩
abbrev cL_acts : ByteArray := method_20_code
def yL_acts : MethodName := ⟨RL, "acts", "(LSightLegend;[I[I[II)Z"⟩
abbrev cL_begins : ByteArray := method_21_code
def yL_begins : MethodName := ⟨RL, "begins", "([I[I)V"⟩
abbrev cL_adds : ByteArray := method_22_code
def yL_adds : MethodName := ⟨RL, "adds", "(LSightLegend;IIIII)I"⟩
abbrev cL_drops : ByteArray := method_23_code
def yL_drops : MethodName := ⟨RL, "drops", "(LSightLegend;I)I"⟩
abbrev cL_moves : ByteArray := method_24_code
def yL_moves : MethodName := ⟨RL, "moves", "(LSightLegend;III)I"⟩
abbrev cL_windows : ByteArray := method_25_code
def yL_windows : MethodName := ⟨RL, "windows", "(LSightLegend;IIIII)I"⟩
abbrev cL_sets : ByteArray := method_26_code
def yL_sets : MethodName := ⟨RL, "sets", "(LSightLegend;II)I"⟩
abbrev cL_kinds : ByteArray := method_27_code
def yL_kinds : MethodName := ⟨RL, "kinds", "(LSightLegend;III)I"⟩
abbrev cL_ways : ByteArray := method_28_code
def yL_ways : MethodName := ⟨RL, "ways", "(LSightLegend;II)I"⟩
abbrev cL_limits : ByteArray := method_29_code
def yL_limits : MethodName := ⟨RL, "limits", "(LSightLegend;II)I"⟩
abbrev cL_valueOf : ByteArray := method_30_code
def yL_valueOf : MethodName := ⟨RL, "valueOf", "(LSightLegend;I)I"⟩
abbrev cL_signOf : ByteArray := method_31_code
def yL_signOf : MethodName := ⟨RL, "signOf", "(LSightLegend;II)I"⟩
abbrev cL_kindOf : ByteArray := method_32_code
def yL_kindOf : MethodName := ⟨RL, "kindOf", "(LSightLegend;II)I"⟩
abbrev cL_lineOf : ByteArray := method_33_code
def yL_lineOf : MethodName := ⟨RL, "lineOf", "(LSightLegend;II)I"⟩
abbrev cL_boxOf : ByteArray := method_34_code
def yL_boxOf : MethodName := ⟨RL, "boxOf", "(LSightLegend;I)I"⟩
abbrev cL_roundsOf : ByteArray := method_35_code
def yL_roundsOf : MethodName := ⟨RL, "roundsOf", "(LSightLegend;I)I"⟩
abbrev cL_stands : ByteArray := method_36_code
def yL_stands : MethodName := ⟨RL, "stands", "([I[I[III)Z"⟩
abbrev cL_isSo : ByteArray := method_37_code
def yL_isSo : MethodName := ⟨RL, "isSo", "(LSightLegend;[I[I[I[I)Z"⟩
abbrev cL_law : ByteArray := code
def yL_law : MethodName := ⟨RL, "law", "([I)Z"⟩
def wsL_law0_r1 : List Cond := [Cond.classLink RL 106 RX6, Cond.instantiable RX6 8, Cond.initialized RX6, Cond.arrayClass .int, Cond.constant RL 8 (2147483647), Cond.methodLink RL 191 yX6_init, Cond.instanceMethod yX6_init, Cond.code yX6_init cX6_init 2 none, Cond.methodLink RX6 1 objectInit, Cond.instanceMethod objectInit, Cond.code objectInit ⟨#[0xb1]⟩ 1 none, Cond.classLink RX6 7 RX3, Cond.instantiable RX3 13, Cond.initialized RX3, Cond.fieldLink RX6 10 "SightLegend" "map" "LSightLegend$MapState;", Cond.classLink RX6 16 RX1, Cond.instantiable RX1 12, Cond.initialized RX1, Cond.fieldLink RX6 19 "SightLegend" "legend" "LSightLegend$Legend;", Cond.fieldLink RX6 23 "SightLegend" "otherMap" "LSightLegend$MapState;", Cond.fieldLink RX6 26 "SightLegend" "otherLegend" "LSightLegend$Legend;", Cond.classLink RX6 29 RX5, Cond.instantiable RX5 5, Cond.initialized RX5]
def wsL_law0_r2 : List Cond := [Cond.fieldLink RX6 32 "SightLegend" "text" "LSightLegend$SignText;", Cond.fieldLink RX6 36 "SightLegend" "saved" "[LSightLegend$MapState;", Cond.methodLink RX6 9 yX3_init, Cond.instanceMethod yX3_init, Cond.code yX3_init cX3_init 2 none, Cond.methodLink RX3 3 objectInit, Cond.fieldLink RX3 9 "SightLegend$MapState" "signKind" "[I", Cond.fieldLink RX3 15 "SightLegend$MapState" "signColumn" "[I", Cond.fieldLink RX3 18 "SightLegend$MapState" "signRow" "[I", Cond.fieldLink RX3 21 "SightLegend$MapState" "signValue" "[I", Cond.fieldLink RX3 24 "SightLegend$MapState" "signLevel" "[I", Cond.fieldLink RX3 27 "SightLegend$MapState" "rank" "[I", Cond.fieldLink RX3 30 "SightLegend$MapState" "group" "[I", Cond.fieldLink RX3 33 "SightLegend$MapState" "limitCount" "[I", Cond.fieldLink RX3 36 "SightLegend$MapState" "limits" "[I", Cond.fieldLink RX3 39 "SightLegend$MapState" "way" "[I", Cond.fieldLink RX3 42 "SightLegend$MapState" "window" "[I", Cond.fieldLink RX3 45 "SightLegend$MapState" "settings" "[I", Cond.instanceMethod yX1_init, Cond.code yX1_init cX1_init 1 none, Cond.methodLink RX1 3 objectInit, Cond.arrayClass .boolean, Cond.fieldLink RX1 9 "SightLegend$Legend" "shown" "[Z", Cond.fieldLink RX1 15 "SightLegend$Legend" "inSight" "[Z"]
def wsL_law0_r3 : List Cond := [Cond.classLink RX1 18 RX4, Cond.instantiable RX4 6, Cond.initialized RX4, Cond.fieldLink RX1 21 "SightLegend$Legend" "ranges" "LSightLegend$Ranges;", Cond.classLink RX1 25 RX2, Cond.instantiable RX2 14, Cond.initialized RX2, Cond.fieldLink RX1 28 "SightLegend$Legend" "now" "LSightLegend$Lines;", Cond.fieldLink RX1 32 "SightLegend$Legend" "before" "LSightLegend$Lines;", Cond.classLink RX1 35 RX0, Cond.instantiable RX0 6, Cond.initialized RX0, Cond.fieldLink RX1 38 "SightLegend$Legend" "box" "LSightLegend$Box;", Cond.instanceMethod yX4_init, Cond.code yX4_init cX4_init 1 none, Cond.methodLink RX4 3 objectInit, Cond.fieldLink RX4 9 "SightLegend$Ranges" "total" "[I", Cond.fieldLink RX4 15 "SightLegend$Ranges" "classSigns" "[I", Cond.fieldLink RX4 18 "SightLegend$Ranges" "size" "[I", Cond.fieldLink RX4 21 "SightLegend$Ranges" "first" "[I", Cond.fieldLink RX4 24 "SightLegend$Ranges" "last" "[I", Cond.fieldLink RX4 27 "SightLegend$Ranges" "signs" "[I", Cond.instanceMethod yX2_init, Cond.code yX2_init cX2_init 1 none]
def wsL_law0_r4 : List Cond := [Cond.methodLink RX2 3 objectInit, Cond.fieldLink RX2 9 "SightLegend$Lines" "type" "[I", Cond.fieldLink RX2 15 "SightLegend$Lines" "kind" "[I", Cond.fieldLink RX2 18 "SightLegend$Lines" "group" "[I", Cond.fieldLink RX2 21 "SightLegend$Lines" "first" "[I", Cond.fieldLink RX2 24 "SightLegend$Lines" "last" "[I", Cond.fieldLink RX2 27 "SightLegend$Lines" "signs" "[I", Cond.fieldLink RX2 30 "SightLegend$Lines" "column" "[I", Cond.fieldLink RX2 33 "SightLegend$Lines" "place" "[I", Cond.fieldLink RX2 36 "SightLegend$Lines" "order" "[I", Cond.fieldLink RX2 39 "SightLegend$Lines" "groupDone" "[Z", Cond.instanceMethod yX0_init, Cond.code yX0_init cX0_init 1 none, Cond.methodLink RX0 3 objectInit, Cond.instanceMethod yX5_init, Cond.code yX5_init cX5_init 1 none, Cond.methodLink RX5 3 objectInit, Cond.fieldLink RX5 9 "SightLegend$SignText" "bytes" "[I", Cond.classLink RX5 15 RX3, Cond.fieldLink RX5 18 "SightLegend$SignText" "signs" "LSightLegend$MapState;", Cond.methodLink RX5 17 yX3_init, Cond.methodLink RL 192 yL_begins, Cond.static yL_begins, Cond.initialized RL]
def wsL_law0_r5 : List Cond := [Cond.code yL_begins cL_begins 3 none, Cond.methodLink RL 196 yL_isSo, Cond.static yL_isSo, Cond.code yL_isSo cL_isSo 10 (some .boolean), Cond.constant RL 93 (-100001), Cond.methodLink RL 155 yL_legend, Cond.static yL_legend, Cond.code yL_legend cL_legend 7 none, Cond.methodLink RL 46 yL_shown, Cond.static yL_shown, Cond.code yL_shown cL_shown 4 (some .int), Cond.methodLink RL 9 yL_within, Cond.static yL_within, Cond.code yL_within cL_within 3 (some .boolean), Cond.methodLink RL 53 yL_covered, Cond.static yL_covered, Cond.code yL_covered cL_covered 7 (some .int), Cond.methodLink RL 57 yL_lists, Cond.static yL_lists, Cond.code yL_lists cL_lists 13 none, Cond.methodLink RL 31 yL_bits, Cond.static yL_bits, Cond.code yL_bits cL_bits 3 (some .int), Cond.methodLink RL 35 yL_block]
def wsL_law0_r6 : List Cond := [Cond.static yL_block, Cond.code yL_block cL_block 6 (some .int), Cond.methodLink RL 15 yL_key, Cond.static yL_key, Cond.code yL_key cL_key 2 (some .int), Cond.methodLink RL 39 yL_member, Cond.static yL_member, Cond.code yL_member cL_member 5 (some .int), Cond.methodLink RL 27 yL_code, Cond.static yL_code, Cond.code yL_code cL_code 5 (some .int), Cond.methodLink RL 42 yL_linesOf, Cond.static yL_linesOf, Cond.code yL_linesOf cL_linesOf 10 (some .int), Cond.methodLink RL 23 yL_signs, Cond.static yL_signs, Cond.code yL_signs cL_signs 8 (some .int), Cond.methodLink RL 19 yL_classOf, Cond.static yL_classOf, Cond.code yL_classOf cL_classOf 5 (some .int), Cond.methodLink RL 61 yL_box, Cond.static yL_box, Cond.code yL_box cL_box 8 none, Cond.methodLink RL 50 yL_place]
def wsL_law0_r7 : List Cond := [Cond.static yL_place, Cond.code yL_place cL_place 10 (some .int), Cond.methodLink RL 158 yX6_lines, Cond.instanceMethod yX6_lines, Cond.selects RX6 yX6_lines yX6_lines, Cond.code yX6_lines cX6_lines 1 (some .int), Cond.fieldLink RX6 146 "SightLegend$Legend" "now" "LSightLegend$Lines;", Cond.fieldLink RX6 150 "SightLegend$Lines" "size" "I", Cond.methodLink RX6 131 yX1_make, Cond.instanceMethod yX1_make, Cond.selects RX1 yX1_make yX1_make, Cond.code yX1_make cX1_make 3 none, Cond.fieldLink RX1 42 "SightLegend$Legend" "stands" "Z", Cond.fieldLink RX1 50 "SightLegend$Legend" "stays" "Z", Cond.fieldLink RX1 60 "SightLegend$Legend" "explainedCount" "I", Cond.methodLink RX1 46 yX1_seeAllShown, Cond.instanceMethod yX1_seeAllShown, Cond.selects RX1 yX1_seeAllShown yX1_seeAllShown, Cond.code yX1_seeAllShown cX1_seeAllShown 3 none, Cond.fieldLink RX1 64 "SightLegend$Legend" "shownCount" "I", Cond.fieldLink RX1 67 "SightLegend$MapState" "signCount" "I", Cond.methodLink RX1 72 yX3_isShown, Cond.instanceMethod yX3_isShown, Cond.selects RX3 yX3_isShown yX3_isShown]
def wsL_law0_r8 : List Cond := [Cond.code yX3_isShown cX3_isShown 2 (some .boolean), Cond.methodLink RX3 62 yX3_isInWindow, Cond.instanceMethod yX3_isInWindow, Cond.selects RX3 yX3_isInWindow yX3_isInWindow, Cond.code yX3_isInWindow cX3_isInWindow 4 (some .boolean), Cond.methodLink RX1 53 yX1_hideCovered, Cond.instanceMethod yX1_hideCovered, Cond.selects RX1 yX1_hideCovered yX1_hideCovered, Cond.code yX1_hideCovered cX1_hideCovered 3 none, Cond.methodLink RX1 76 yX0_covers, Cond.instanceMethod yX0_covers, Cond.selects RX0 yX0_covers yX0_covers, Cond.code yX0_covers cX0_covers 5 (some .boolean), Cond.fieldLink RX0 74 "SightLegend$MapState" "signColumn" "[I", Cond.fieldLink RX0 61 "SightLegend$Box" "left" "I", Cond.fieldLink RX0 77 "SightLegend$MapState" "signRow" "[I", Cond.fieldLink RX0 64 "SightLegend$Box" "top" "I", Cond.fieldLink RX0 58 "SightLegend$Box" "corner" "I", Cond.fieldLink RX0 38 "SightLegend$Box" "width" "I", Cond.fieldLink RX0 44 "SightLegend$Box" "height" "I", Cond.methodLink RX1 56 yX1_makeRound, Cond.instanceMethod yX1_makeRound, Cond.selects RX1 yX1_makeRound yX1_makeRound, Cond.code yX1_makeRound cX1_makeRound 3 none]
def wsL_law0_r9 : List Cond := [Cond.fieldLink RX1 92 "SightLegend$MapState" "settings" "[I", Cond.fieldLink RX1 104 "SightLegend$Legend" "roundCount" "I", Cond.fieldLink RX1 107 "SightLegend$Lines" "size" "I", Cond.fieldLink RX1 110 "SightLegend$Legend" "firstLineCount" "I", Cond.methodLink RX1 80 yX2_copyFrom, Cond.instanceMethod yX2_copyFrom, Cond.selects RX2 yX2_copyFrom yX2_copyFrom, Cond.code yX2_copyFrom cX2_copyFrom 3 none, Cond.fieldLink RX2 43 "SightLegend$Lines" "size" "I", Cond.methodLink RX1 84 yX4_build, Cond.instanceMethod yX4_build, Cond.selects RX4 yX4_build yX4_build, Cond.code yX4_build cX4_build 6 none, Cond.fieldLink RX4 38 "SightLegend$MapState" "settings" "[I", Cond.methodLink RX4 43 Lib.Math.max.name, Cond.static Lib.Math.max.name, Cond.initialized "java/lang/Math", Cond.code Lib.Math.max.name Lib.Math.max.code 2 (some .int), Cond.methodLink RX4 30 yX4_countSigns, Cond.instanceMethod yX4_countSigns, Cond.selects RX4 yX4_countSigns yX4_countSigns, Cond.code yX4_countSigns cX4_countSigns 5 none, Cond.fieldLink RX4 52 "SightLegend$MapState" "signCount" "I", Cond.fieldLink RX4 56 "SightLegend$MapState" "signKind" "[I"]
def wsL_law0_r10 : List Cond := [Cond.methodLink RX4 59 yX3_classOf, Cond.instanceMethod yX3_classOf, Cond.selects RX3 yX3_classOf yX3_classOf, Cond.code yX3_classOf cX3_classOf 5 (some .int), Cond.methodLink RX4 34 yX4_takeClasses, Cond.instanceMethod yX4_takeClasses, Cond.selects RX4 yX4_takeClasses yX4_takeClasses, Cond.code yX4_takeClasses cX4_takeClasses 5 none, Cond.methodLink RX4 49 yX4_joinFewest, Cond.instanceMethod yX4_joinFewest, Cond.selects RX4 yX4_joinFewest yX4_joinFewest, Cond.code yX4_joinFewest cX4_joinFewest 6 none, Cond.methodLink RX1 88 yX2_compose, Cond.instanceMethod yX2_compose, Cond.selects RX2 yX2_compose yX2_compose, Cond.code yX2_compose cX2_compose 6 none, Cond.fieldLink RX2 51 "SightLegend$Lines" "orderSize" "I", Cond.fieldLink RX2 54 "SightLegend$MapState" "group" "[I", Cond.methodLink RX2 47 yX2_orderKinds, Cond.instanceMethod yX2_orderKinds, Cond.selects RX2 yX2_orderKinds yX2_orderKinds, Cond.code yX2_orderKinds cX2_orderKinds 5 none, Cond.fieldLink RX2 65 "SightLegend$Ranges" "size" "[I", Cond.fieldLink RX2 69 "SightLegend$MapState" "rank" "[I"]
def wsL_law0_r11 : List Cond := [Cond.methodLink RX2 57 yX2_addKindLines, Cond.instanceMethod yX2_addKindLines, Cond.selects RX2 yX2_addKindLines yX2_addKindLines, Cond.code yX2_addKindLines cX2_addKindLines 6 none, Cond.fieldLink RX2 82 "SightLegend$Ranges" "first" "[I", Cond.fieldLink RX2 83 "SightLegend$Ranges" "last" "[I", Cond.fieldLink RX2 84 "SightLegend$Ranges" "signs" "[I", Cond.methodLink RX2 78 yX2_add, Cond.instanceMethod yX2_add, Cond.selects RX2 yX2_add yX2_add, Cond.code yX2_add cX2_add 7 none, Cond.methodLink RX2 61 yX2_addGroup, Cond.instanceMethod yX2_addGroup, Cond.selects RX2 yX2_addGroup yX2_addGroup, Cond.code yX2_addGroup cX2_addGroup 8 none, Cond.fieldLink RX2 72 "SightLegend$Ranges" "total" "[I", Cond.fieldLink RX2 75 "SightLegend$MapState" "way" "[I", Cond.methodLink RX1 96 yX2_layOut, Cond.instanceMethod yX2_layOut, Cond.selects RX2 yX2_layOut yX2_layOut, Cond.code yX2_layOut cX2_layOut 7 none, Cond.fieldLink RX2 85 "SightLegend$Lines" "tallest" "I", Cond.methodLink RX2 88 Lib.Math.max.name, Cond.fieldLink RX2 94 "SightLegend$Lines" "usedColumns" "I"]
def wsL_law0_r12 : List Cond := [Cond.methodLink RX1 100 yX0_place, Cond.instanceMethod yX0_place, Cond.selects RX0 yX0_place yX0_place, Cond.code yX0_place cX0_place 8 none, Cond.fieldLink RX0 9 "SightLegend$Lines" "size" "I", Cond.fieldLink RX0 20 "SightLegend$MapState" "settings" "[I", Cond.fieldLink RX0 26 "SightLegend$Lines" "usedColumns" "I", Cond.fieldLink RX0 29 "SightLegend$MapState" "window" "[I", Cond.methodLink RX0 32 Lib.Math.min.name, Cond.static Lib.Math.min.name, Cond.code Lib.Math.min.name Lib.Math.min.code 2 (some .int), Cond.fieldLink RX0 41 "SightLegend$Lines" "tallest" "I", Cond.fieldLink RX0 55 "SightLegend$Box" "covered" "I", Cond.methodLink RX0 15 yX0_vanish, Cond.instanceMethod yX0_vanish, Cond.selects RX0 yX0_vanish yX0_vanish, Cond.code yX0_vanish cX0_vanish 1 none, Cond.methodLink RX0 47 yX0_moveTo, Cond.instanceMethod yX0_moveTo, Cond.selects RX0 yX0_moveTo yX0_moveTo, Cond.code yX0_moveTo cX0_moveTo 5 none, Cond.methodLink RX0 51 yX0_countCovered, Cond.instanceMethod yX0_countCovered, Cond.selects RX0 yX0_countCovered yX0_countCovered]
def wsL_law0_r13 : List Cond := [Cond.code yX0_countCovered cX0_countCovered 5 (some .int), Cond.fieldLink RX0 67 "SightLegend$MapState" "signCount" "I", Cond.methodLink RX0 70 yX0_covers, Cond.methodLink RX1 113 yX2_isSameAs, Cond.instanceMethod yX2_isSameAs, Cond.selects RX2 yX2_isSameAs yX2_isSameAs, Cond.code yX2_isSameAs cX2_isSameAs 3 (some .boolean), Cond.methodLink RL 162 yX6_firstLines, Cond.instanceMethod yX6_firstLines, Cond.selects RX6 yX6_firstLines yX6_firstLines, Cond.code yX6_firstLines cX6_firstLines 1 (some .int), Cond.fieldLink RX6 171 "SightLegend$Legend" "firstLineCount" "I", Cond.methodLink RL 165 yL_roundsOf, Cond.static yL_roundsOf, Cond.codeWith yL_roundsOf cL_roundsOf 3 (some .int) [(0, 5, 6, 112)], Cond.classLink RL 112 "java/lang/IllegalArgumentException", Cond.constant RL 104 (-100002), Cond.methodLink RL 152 yX6_rounds, Cond.instanceMethod yX6_rounds, Cond.selects RX6 yX6_rounds yX6_rounds, Cond.code yX6_rounds cX6_rounds 2 (some .int), Cond.methodLink RX6 44 yX6_demandBelow, Cond.static yX6_demandBelow, Cond.code yX6_demandBelow cX6_demandBelow 2 none]
def wsL_law0_r14 : List Cond := [Cond.classLink RX6 92 "java/lang/IllegalArgumentException", Cond.initialized "java/lang/IllegalArgumentException", Cond.methodLink RX6 168 yX6_roundFact, Cond.instanceMethod yX6_roundFact, Cond.selects RX6 yX6_roundFact yX6_roundFact, Cond.code yX6_roundFact cX6_roundFact 2 (some .int), Cond.fieldLink RX6 276 "SightLegend$Legend" "roundCount" "I", Cond.fieldLink RX6 279 "SightLegend$Legend" "stays" "Z", Cond.methodLink RX6 282 yX1_countCoveredInSight, Cond.instanceMethod yX1_countCoveredInSight, Cond.selects RX1 yX1_countCoveredInSight yX1_countCoveredInSight, Cond.code yX1_countCoveredInSight cX1_countCoveredInSight 2 (some .int), Cond.methodLink RX1 117 yX0_countCovered, Cond.methodLink RL 168 yL_valueOf, Cond.static yL_valueOf, Cond.codeWith yL_valueOf cL_valueOf 3 (some .int) [(0, 5, 6, 112)], Cond.methodLink RL 138 yX6_value, Cond.instanceMethod yX6_value, Cond.selects RX6 yX6_value yX6_value, Cond.code yX6_value cX6_value 2 (some .int), Cond.methodLink RX6 135 yX6_numberOf, Cond.instanceMethod yX6_numberOf, Cond.selects RX6 yX6_numberOf yX6_numberOf, Cond.code yX6_numberOf cX6_numberOf 2 (some .int)]
def wsL_law0_r15 : List Cond := [Cond.fieldLink RX6 97 "SightLegend$MapState" "settings" "[I", Cond.fieldLink RX6 82 "SightLegend$MapState" "window" "[I", Cond.fieldLink RX6 48 "SightLegend$MapState" "signCount" "I", Cond.fieldLink RX6 174 "SightLegend$Legend" "shownCount" "I", Cond.fieldLink RX6 177 "SightLegend$Legend" "explainedCount" "I", Cond.methodLink RL 171 yL_boxOf, Cond.static yL_boxOf, Cond.codeWith yL_boxOf cL_boxOf 3 (some .int) [(0, 5, 6, 112)], Cond.methodLink RL 150 yX6_box, Cond.instanceMethod yX6_box, Cond.selects RX6 yX6_box yX6_box, Cond.code yX6_box cX6_box 2 (some .int), Cond.fieldLink RX6 160 "SightLegend$Legend" "box" "LSightLegend$Box;", Cond.methodLink RX6 164 yX0_fact, Cond.instanceMethod yX0_fact, Cond.selects RX0 yX0_fact yX0_fact, Cond.code yX0_fact cX0_fact 2 (some .int), Cond.methodLink RL 174 yX6_explained, Cond.instanceMethod yX6_explained, Cond.selects RX6 yX6_explained yX6_explained, Cond.code yX6_explained cX6_explained 2 (some .double), Cond.methodLink RL 178 yL_stands, Cond.static yL_stands, Cond.code yL_stands cL_stands 10 (some .boolean)]
def wsL_law0_r16 : List Cond := [Cond.methodLink RL 182 yL_lineOf, Cond.static yL_lineOf, Cond.codeWith yL_lineOf cL_lineOf 4 (some .int) [(0, 6, 7, 110), (0, 6, 11, 112)], Cond.classLink RL 110 "java/lang/IndexOutOfBoundsException", Cond.methodLink RL 147 yX6_line, Cond.instanceMethod yX6_line, Cond.selects RX6 yX6_line yX6_line, Cond.code yX6_line cX6_line 3 (some .int), Cond.classLink RX6 106 "java/lang/IndexOutOfBoundsException", Cond.initialized "java/lang/IndexOutOfBoundsException", Cond.methodLink RX6 157 yX2_fact, Cond.instanceMethod yX2_fact, Cond.selects RX2 yX2_fact yX2_fact, Cond.code yX2_fact cX2_fact 3 (some .int), Cond.methodLink RL 185 yL_signOf, Cond.static yL_signOf, Cond.codeWith yL_signOf cL_signOf 4 (some .int) [(0, 6, 7, 110), (0, 6, 11, 112)], Cond.methodLink RL 141 yX6_sign, Cond.instanceMethod yX6_sign, Cond.selects RX6 yX6_sign yX6_sign, Cond.code yX6_sign cX6_sign 3 (some .int), Cond.methodLink RX6 66 yX6_demandSign, Cond.instanceMethod yX6_demandSign, Cond.selects RX6 yX6_demandSign yX6_demandSign]
def wsL_law0_r17 : List Cond := [Cond.code yX6_demandSign cX6_demandSign 2 none, Cond.methodLink RX6 139 yX6_signFact, Cond.instanceMethod yX6_signFact, Cond.selects RX6 yX6_signFact yX6_signFact, Cond.code yX6_signFact cX6_signFact 3 (some .int), Cond.fieldLink RX6 187 "SightLegend$MapState" "signKind" "[I", Cond.fieldLink RX6 72 "SightLegend$MapState" "signColumn" "[I", Cond.fieldLink RX6 76 "SightLegend$MapState" "signRow" "[I", Cond.fieldLink RX6 244 "SightLegend$MapState" "signValue" "[I", Cond.fieldLink RX6 194 "SightLegend$MapState" "signLevel" "[I", Cond.fieldLink RX6 250 "SightLegend$Legend" "shown" "[Z", Cond.fieldLink RX6 254 "SightLegend$Legend" "inSight" "[Z", Cond.methodLink RX6 247 yX3_classOf, Cond.methodLink RX6 257 yX1_lineOf, Cond.instanceMethod yX1_lineOf, Cond.selects RX1 yX1_lineOf yX1_lineOf, Cond.code yX1_lineOf cX1_lineOf 6 (some .int), Cond.fieldLink RX1 121 "SightLegend$MapState" "signKind" "[I", Cond.fieldLink RX1 128 "SightLegend$Lines" "type" "[I", Cond.fieldLink RX1 131 "SightLegend$Lines" "group" "[I", Cond.fieldLink RX1 134 "SightLegend$MapState" "group" "[I", Cond.fieldLink RX1 135 "SightLegend$Lines" "kind" "[I", Cond.fieldLink RX1 138 "SightLegend$Lines" "first" "[I", Cond.fieldLink RX1 141 "SightLegend$Lines" "last" "[I"]
def wsL_law0_r18 : List Cond := [Cond.methodLink RX1 124 yX3_classOf, Cond.methodLink RL 188 yL_kindOf, Cond.static yL_kindOf, Cond.codeWith yL_kindOf cL_kindOf 4 (some .int) [(0, 6, 7, 110), (0, 6, 11, 112)], Cond.methodLink RL 144 yX6_kind, Cond.instanceMethod yX6_kind, Cond.selects RX6 yX6_kind yX6_kind, Cond.code yX6_kind cX6_kind 3 (some .int), Cond.methodLink RX6 40 yX6_demandKind, Cond.static yX6_demandKind, Cond.code yX6_demandKind cX6_demandKind 1 none, Cond.methodLink RX6 143 yX6_kindFact, Cond.instanceMethod yX6_kindFact, Cond.selects RX6 yX6_kindFact yX6_kindFact, Cond.code yX6_kindFact cX6_kindFact 3 (some .int), Cond.fieldLink RX6 100 "SightLegend$MapState" "rank" "[I", Cond.fieldLink RX6 103 "SightLegend$MapState" "group" "[I", Cond.fieldLink RX6 120 "SightLegend$MapState" "limitCount" "[I", Cond.fieldLink RX6 264 "SightLegend$Legend" "ranges" "LSightLegend$Ranges;", Cond.fieldLink RX6 268 "SightLegend$Ranges" "total" "[I", Cond.methodLink RX6 261 yX2_countOfKind, Cond.instanceMethod yX2_countOfKind, Cond.selects RX2 yX2_countOfKind yX2_countOfKind, Cond.code yX2_countOfKind cX2_countOfKind 4 (some .int)]
def wsL_law0_r19 : List Cond := [Cond.methodLink RX6 273 yX3_limitAt, Cond.instanceMethod yX3_limitAt, Cond.selects RX3 yX3_limitAt yX3_limitAt, Cond.code yX3_limitAt cX3_limitAt 3 (some .int), Cond.methodLink RL 200 yL_cell, Cond.static yL_cell, Cond.code yL_cell cL_cell 2 (some .int), Cond.constant RL 7 (40503), Cond.methodLink RL 203 yL_acts, Cond.static yL_acts, Cond.code yL_acts cL_acts 19 (some .boolean), Cond.constant RL 65 (10000000), Cond.constant RL 88 (-100003), Cond.methodLink RL 66 yL_low, Cond.static yL_low, Cond.code yL_low cL_low 2 (some .int), Cond.methodLink RL 70 yL_windows, Cond.static yL_windows, Cond.codeWith yL_windows cL_windows 7 (some .int) [(0, 11, 12, 112)], Cond.methodLink RL 123 yX6_setWindow, Cond.instanceMethod yX6_setWindow, Cond.selects RX6 yX6_setWindow yX6_setWindow, Cond.code yX6_setWindow cX6_setWindow 6 (some .int), Cond.methodLink RX6 79 yX6_demandSpan]
def wsL_law0_r20 : List Cond := [Cond.static yX6_demandSpan, Cond.code yX6_demandSpan cX6_demandSpan 1 none, Cond.methodLink RX6 59 yX6_saveState, Cond.instanceMethod yX6_saveState, Cond.selects RX6 yX6_saveState yX6_saveState, Cond.code yX6_saveState cX6_saveState 2 none, Cond.fieldLink RX6 222 "SightLegend" "savedCount" "I", Cond.fieldLink RX6 227 "SightLegend" "oldestSaved" "I", Cond.fieldLink RX6 183 "SightLegend$Legend" "stands" "Z", Cond.methodLink RX6 180 yX3_copyFrom, Cond.instanceMethod yX3_copyFrom, Cond.selects RX3 yX3_copyFrom yX3_copyFrom, Cond.code yX3_copyFrom cX3_copyFrom 2 none, Cond.methodLink RX3 52 arraycopyName, Cond.native arraycopyName, Cond.static arraycopyName, Cond.initialized "java/lang/System", Cond.methodLink RX3 48 yX3_takeSigns, Cond.instanceMethod yX3_takeSigns, Cond.selects RX3 yX3_takeSigns yX3_takeSigns, Cond.code yX3_takeSigns cX3_takeSigns 2 none, Cond.fieldLink RX3 58 "SightLegend$MapState" "signCount" "I", Cond.methodLink RX6 85 yX3_countShown, Cond.instanceMethod yX3_countShown]
def wsL_law0_r21 : List Cond := [Cond.selects RX3 yX3_countShown yX3_countShown, Cond.code yX3_countShown cX3_countShown 3 (some .int), Cond.methodLink RX3 66 yX3_isShown, Cond.methodLink RL 74 yL_sets, Cond.static yL_sets, Cond.codeWith yL_sets cL_sets 4 (some .int) [(0, 6, 7, 112)], Cond.methodLink RL 126 yX6_set, Cond.instanceMethod yX6_set, Cond.selects RX6 yX6_set yX6_set, Cond.code yX6_set cX6_set 4 (some .int), Cond.fieldLink RX6 89 "SightLegend" "HIGHEST_SETTING" "[I", Cond.methodLink RL 78 yL_kinds, Cond.static yL_kinds, Cond.codeWith yL_kinds cL_kinds 5 (some .int) [(0, 7, 8, 110), (0, 7, 13, 112)], Cond.methodLink RL 129 yX6_setKind, Cond.instanceMethod yX6_setKind, Cond.selects RX6 yX6_setKind yX6_setKind, Cond.code yX6_setKind cX6_setKind 5 (some .int), Cond.methodLink RL 82 yL_ways, Cond.static yL_ways, Cond.codeWith yL_ways cL_ways 4 (some .int) [(0, 6, 7, 110), (0, 6, 11, 112)], Cond.methodLink RL 132 yX6_setWay, Cond.instanceMethod yX6_setWay, Cond.selects RX6 yX6_setWay yX6_setWay]
def wsL_law0_r22 : List Cond := [Cond.code yX6_setWay cX6_setWay 4 (some .int), Cond.fieldLink RX6 111 "SightLegend$MapState" "way" "[I", Cond.methodLink RL 85 yL_limits, Cond.static yL_limits, Cond.codeWith yL_limits cL_limits 4 (some .int) [(0, 6, 7, 110), (0, 6, 11, 112), (0, 6, 15, 114)], Cond.classLink RL 114 "java/lang/IllegalStateException", Cond.methodLink RL 135 yX6_limit, Cond.instanceMethod yX6_limit, Cond.selects RX6 yX6_limit yX6_limit, Cond.code yX6_limit cX6_limit 4 (some .int), Cond.classLink RX6 52 "java/lang/IllegalStateException", Cond.initialized "java/lang/IllegalStateException", Cond.methodLink RX6 116 yX3_hasLimit, Cond.instanceMethod yX3_hasLimit, Cond.selects RX3 yX3_hasLimit yX3_hasLimit, Cond.code yX3_hasLimit cX3_hasLimit 4 (some .boolean), Cond.methodLink RX6 125 yX3_dropLimit, Cond.instanceMethod yX3_dropLimit, Cond.selects RX3 yX3_dropLimit yX3_dropLimit, Cond.code yX3_dropLimit cX3_dropLimit 7 none, Cond.methodLink RX6 128 yX3_putLimit, Cond.instanceMethod yX3_putLimit, Cond.selects RX3 yX3_putLimit yX3_putLimit, Cond.code yX3_putLimit cX3_putLimit 5 none]
def wsL_law0_r23 : List Cond := [Cond.methodLink RL 89 yL_drops, Cond.static yL_drops, Cond.codeWith yL_drops cL_drops 3 (some .int) [(0, 5, 6, 110)], Cond.methodLink RL 116 yX6_removeSign, Cond.instanceMethod yX6_removeSign, Cond.selects RX6 yX6_removeSign yX6_removeSign, Cond.code yX6_removeSign cX6_removeSign 2 (some .int), Cond.methodLink RX6 69 yX3_dropSign, Cond.instanceMethod yX3_dropSign, Cond.selects RX3 yX3_dropSign yX3_dropSign, Cond.code yX3_dropSign cX3_dropSign 3 none, Cond.methodLink RL 94 yL_closes, Cond.static yL_closes, Cond.code yL_closes cL_closes 3 none, Cond.methodLink RL 98 yL_moves, Cond.static yL_moves, Cond.codeWith yL_moves cL_moves 5 (some .int) [(0, 7, 8, 110), (0, 7, 13, 112)], Cond.methodLink RL 119 yX6_moveSign, Cond.instanceMethod yX6_moveSign, Cond.selects RX6 yX6_moveSign yX6_moveSign, Cond.code yX6_moveSign cX6_moveSign 5 (some .int), Cond.methodLink RL 101 yL_adds, Cond.static yL_adds, Cond.codeWith yL_adds cL_adds 7 (some .int) [(0, 11, 12, 110), (0, 11, 17, 112), (0, 11, 22, 114)]]
def wsL_law0_r24 : List Cond := [Cond.methodLink RL 105 yX6_addSign, Cond.instanceMethod yX6_addSign, Cond.selects RX6 yX6_addSign yX6_addSign, Cond.code yX6_addSign cX6_addSign 6 (some .int), Cond.methodLink RX6 62 yX3_putSign, Cond.instanceMethod yX3_putSign, Cond.selects RX3 yX3_putSign yX3_putSign, Cond.code yX3_putSign cX3_putSign 6 none]
def wsL_law0 : List Cond := (wsL_law0_r1 ++ (wsL_law0_r2 ++ (wsL_law0_r3 ++ (wsL_law0_r4 ++ (wsL_law0_r5 ++ (wsL_law0_r6 ++ (wsL_law0_r7 ++ (wsL_law0_r8 ++ (wsL_law0_r9 ++ (wsL_law0_r10 ++ (wsL_law0_r11 ++ (wsL_law0_r12 ++ (wsL_law0_r13 ++ (wsL_law0_r14 ++ (wsL_law0_r15 ++ (wsL_law0_r16 ++ (wsL_law0_r17 ++ (wsL_law0_r18 ++ (wsL_law0_r19 ++ (wsL_law0_r20 ++ (wsL_law0_r21 ++ (wsL_law0_r22 ++ (wsL_law0_r23 ++ wsL_law0_r24))))))))))))))))))))))) ++ wsX60 ++ wsX30 ++ wsX10 ++ wsX50 ++ wsX40 ++ wsX20 ++ wsX00 ++ ([] : List Cond)
def wsL_law : List Cond := wsL_law0 ++ (vx_atS RX6 96 "java/lang/IllegalArgumentException" ["java/lang/RuntimeException", "java/lang/Exception"]).filter goodWord ++ (vx_atS RX6 110 "java/lang/IndexOutOfBoundsException" ["java/lang/RuntimeException", "java/lang/Exception"]).filter goodWord ++ (vx_atS RX6 56 "java/lang/IllegalStateException" ["java/lang/RuntimeException", "java/lang/Exception"]).filter goodWord
theorem inlX0 : ∀ w ∈ wsX00, w ∈ wsL_law := fun _ h => List.mem_append_left _ (List.mem_append_left _ (List.mem_append_left _ (List.mem_append_left _ (List.mem_append_right _ h))))
theorem inlX1 : ∀ w ∈ wsX10, w ∈ wsL_law := fun _ h => List.mem_append_left _ (List.mem_append_left _ (List.mem_append_left _ (List.mem_append_left _ (List.mem_append_left _ (List.mem_append_left _ (List.mem_append_left _ (List.mem_append_left _ (List.mem_append_right _ h))))))))
theorem inlX2 : ∀ w ∈ wsX20, w ∈ wsL_law := fun _ h => List.mem_append_left _ (List.mem_append_left _ (List.mem_append_left _ (List.mem_append_left _ (List.mem_append_left _ (List.mem_append_right _ h)))))
theorem inlX3 : ∀ w ∈ wsX30, w ∈ wsL_law := fun _ h => List.mem_append_left _ (List.mem_append_left _ (List.mem_append_left _ (List.mem_append_left _ (List.mem_append_left _ (List.mem_append_left _ (List.mem_append_left _ (List.mem_append_left _ (List.mem_append_left _ (List.mem_append_right _ h)))))))))
theorem inlX4 : ∀ w ∈ wsX40, w ∈ wsL_law := fun _ h => List.mem_append_left _ (List.mem_append_left _ (List.mem_append_left _ (List.mem_append_left _ (List.mem_append_left _ (List.mem_append_left _ (List.mem_append_right _ h))))))
theorem inlX5 : ∀ w ∈ wsX50, w ∈ wsL_law := fun _ h => List.mem_append_left _ (List.mem_append_left _ (List.mem_append_left _ (List.mem_append_left _ (List.mem_append_left _ (List.mem_append_left _ (List.mem_append_left _ (List.mem_append_right _ h)))))))
theorem inlX6 : ∀ w ∈ wsX60, w ∈ wsL_law := fun _ h => List.mem_append_left _ (List.mem_append_left _ (List.mem_append_left _ (List.mem_append_left _ (List.mem_append_left _ (List.mem_append_left _ (List.mem_append_left _ (List.mem_append_left _ (List.mem_append_left _ (List.mem_append_left _ (List.mem_append_right _ h))))))))))
abbrev vwCl : List vw_C := [(RX0, TX0, 6), (RX1, TX1, 12), (RX2, TX2, 14), (RX3, TX3, 13), (RX4, TX4, 6), (RX5, TX5, 5), (RX6, TX6, 8)]
/-! ===== the words of all methods in one list: wsL_law, in pieces ===== -/
theorem GL_1 : ∀ w ∈ wsL_law0_r1, w ∈ wsL_law := fun w h => (List.mem_append_left _ (List.mem_append_left _ (List.mem_append_left _ (List.mem_append_left _ (List.mem_append_left _ (List.mem_append_left _ (List.mem_append_left _ (List.mem_append_left _ (List.mem_append_left _ (List.mem_append_left _ (List.mem_append_left _ (List.mem_append_left _ h))))))))))))
theorem GG_1 : wsL_law0_r1.all goodWord = true := by decide +kernel
theorem GL_2 : ∀ w ∈ wsL_law0_r2, w ∈ wsL_law := fun w h => (List.mem_append_left _ (List.mem_append_left _ (List.mem_append_left _ (List.mem_append_left _ (List.mem_append_left _ (List.mem_append_left _ (List.mem_append_left _ (List.mem_append_left _ (List.mem_append_left _ (List.mem_append_left _ (List.mem_append_left _ (List.mem_append_right _ (List.mem_append_left _ h)))))))))))))
theorem GG_2 : wsL_law0_r2.all goodWord = true := by decide +kernel
theorem GL_3 : ∀ w ∈ wsL_law0_r3, w ∈ wsL_law := fun w h => (List.mem_append_left _ (List.mem_append_left _ (List.mem_append_left _ (List.mem_append_left _ (List.mem_append_left _ (List.mem_append_left _ (List.mem_append_left _ (List.mem_append_left _ (List.mem_append_left _ (List.mem_append_left _ (List.mem_append_left _ (List.mem_append_right _ (List.mem_append_right _ (List.mem_append_left _ h))))))))))))))
theorem GG_3 : wsL_law0_r3.all goodWord = true := by decide +kernel
theorem GL_4 : ∀ w ∈ wsL_law0_r4, w ∈ wsL_law := fun w h => (List.mem_append_left _ (List.mem_append_left _ (List.mem_append_left _ (List.mem_append_left _ (List.mem_append_left _ (List.mem_append_left _ (List.mem_append_left _ (List.mem_append_left _ (List.mem_append_left _ (List.mem_append_left _ (List.mem_append_left _ (List.mem_append_right _ (List.mem_append_right _ (List.mem_append_right _ (List.mem_append_left _ h)))))))))))))))
theorem GG_4 : wsL_law0_r4.all goodWord = true := by decide +kernel
theorem GL_5 : ∀ w ∈ wsL_law0_r5, w ∈ wsL_law := fun w h => (List.mem_append_left _ (List.mem_append_left _ (List.mem_append_left _ (List.mem_append_left _ (List.mem_append_left _ (List.mem_append_left _ (List.mem_append_left _ (List.mem_append_left _ (List.mem_append_left _ (List.mem_append_left _ (List.mem_append_left _ (List.mem_append_right _ (List.mem_append_right _ (List.mem_append_right _ (List.mem_append_right _ (List.mem_append_left _ h))))))))))))))))
theorem GG_5 : wsL_law0_r5.all goodWord = true := by decide +kernel
theorem GL_6 : ∀ w ∈ wsL_law0_r6, w ∈ wsL_law := fun w h => (List.mem_append_left _ (List.mem_append_left _ (List.mem_append_left _ (List.mem_append_left _ (List.mem_append_left _ (List.mem_append_left _ (List.mem_append_left _ (List.mem_append_left _ (List.mem_append_left _ (List.mem_append_left _ (List.mem_append_left _ (List.mem_append_right _ (List.mem_append_right _ (List.mem_append_right _ (List.mem_append_right _ (List.mem_append_right _ (List.mem_append_left _ h)))))))))))))))))
theorem GG_6 : wsL_law0_r6.all goodWord = true := by decide +kernel
theorem GL_7 : ∀ w ∈ wsL_law0_r7, w ∈ wsL_law := fun w h => (List.mem_append_left _ (List.mem_append_left _ (List.mem_append_left _ (List.mem_append_left _ (List.mem_append_left _ (List.mem_append_left _ (List.mem_append_left _ (List.mem_append_left _ (List.mem_append_left _ (List.mem_append_left _ (List.mem_append_left _ (List.mem_append_right _ (List.mem_append_right _ (List.mem_append_right _ (List.mem_append_right _ (List.mem_append_right _ (List.mem_append_right _ (List.mem_append_left _ h))))))))))))))))))
theorem GG_7 : wsL_law0_r7.all goodWord = true := by decide +kernel
theorem GL_8 : ∀ w ∈ wsL_law0_r8, w ∈ wsL_law := fun w h => (List.mem_append_left _ (List.mem_append_left _ (List.mem_append_left _ (List.mem_append_left _ (List.mem_append_left _ (List.mem_append_left _ (List.mem_append_left _ (List.mem_append_left _ (List.mem_append_left _ (List.mem_append_left _ (List.mem_append_left _ (List.mem_append_right _ (List.mem_append_right _ (List.mem_append_right _ (List.mem_append_right _ (List.mem_append_right _ (List.mem_append_right _ (List.mem_append_right _ (List.mem_append_left _ h)))))))))))))))))))
theorem GG_8 : wsL_law0_r8.all goodWord = true := by decide +kernel
theorem GL_9 : ∀ w ∈ wsL_law0_r9, w ∈ wsL_law := fun w h => (List.mem_append_left _ (List.mem_append_left _ (List.mem_append_left _ (List.mem_append_left _ (List.mem_append_left _ (List.mem_append_left _ (List.mem_append_left _ (List.mem_append_left _ (List.mem_append_left _ (List.mem_append_left _ (List.mem_append_left _ (List.mem_append_right _ (List.mem_append_right _ (List.mem_append_right _ (List.mem_append_right _ (List.mem_append_right _ (List.mem_append_right _ (List.mem_append_right _ (List.mem_append_right _ (List.mem_append_left _ h))))))))))))))))))))
theorem GG_9 : wsL_law0_r9.all goodWord = true := by decide +kernel
theorem GL_10 : ∀ w ∈ wsL_law0_r10, w ∈ wsL_law := fun w h => (List.mem_append_left _ (List.mem_append_left _ (List.mem_append_left _ (List.mem_append_left _ (List.mem_append_left _ (List.mem_append_left _ (List.mem_append_left _ (List.mem_append_left _ (List.mem_append_left _ (List.mem_append_left _ (List.mem_append_left _ (List.mem_append_right _ (List.mem_append_right _ (List.mem_append_right _ (List.mem_append_right _ (List.mem_append_right _ (List.mem_append_right _ (List.mem_append_right _ (List.mem_append_right _ (List.mem_append_right _ (List.mem_append_left _ h)))))))))))))))))))))
theorem GG_10 : wsL_law0_r10.all goodWord = true := by decide +kernel
theorem GL_11 : ∀ w ∈ wsL_law0_r11, w ∈ wsL_law := fun w h => (List.mem_append_left _ (List.mem_append_left _ (List.mem_append_left _ (List.mem_append_left _ (List.mem_append_left _ (List.mem_append_left _ (List.mem_append_left _ (List.mem_append_left _ (List.mem_append_left _ (List.mem_append_left _ (List.mem_append_left _ (List.mem_append_right _ (List.mem_append_right _ (List.mem_append_right _ (List.mem_append_right _ (List.mem_append_right _ (List.mem_append_right _ (List.mem_append_right _ (List.mem_append_right _ (List.mem_append_right _ (List.mem_append_right _ (List.mem_append_left _ h))))))))))))))))))))))
theorem GG_11 : wsL_law0_r11.all goodWord = true := by decide +kernel
theorem GL_12 : ∀ w ∈ wsL_law0_r12, w ∈ wsL_law := fun w h => (List.mem_append_left _ (List.mem_append_left _ (List.mem_append_left _ (List.mem_append_left _ (List.mem_append_left _ (List.mem_append_left _ (List.mem_append_left _ (List.mem_append_left _ (List.mem_append_left _ (List.mem_append_left _ (List.mem_append_left _ (List.mem_append_right _ (List.mem_append_right _ (List.mem_append_right _ (List.mem_append_right _ (List.mem_append_right _ (List.mem_append_right _ (List.mem_append_right _ (List.mem_append_right _ (List.mem_append_right _ (List.mem_append_right _ (List.mem_append_right _ (List.mem_append_left _ h)))))))))))))))))))))))
theorem GG_12 : wsL_law0_r12.all goodWord = true := by decide +kernel
theorem GL_13 : ∀ w ∈ wsL_law0_r13, w ∈ wsL_law := fun w h => (List.mem_append_left _ (List.mem_append_left _ (List.mem_append_left _ (List.mem_append_left _ (List.mem_append_left _ (List.mem_append_left _ (List.mem_append_left _ (List.mem_append_left _ (List.mem_append_left _ (List.mem_append_left _ (List.mem_append_left _ (List.mem_append_right _ (List.mem_append_right _ (List.mem_append_right _ (List.mem_append_right _ (List.mem_append_right _ (List.mem_append_right _ (List.mem_append_right _ (List.mem_append_right _ (List.mem_append_right _ (List.mem_append_right _ (List.mem_append_right _ (List.mem_append_right _ (List.mem_append_left _ h))))))))))))))))))))))))
theorem GG_13 : wsL_law0_r13.all goodWord = true := by decide +kernel
theorem GL_14 : ∀ w ∈ wsL_law0_r14, w ∈ wsL_law := fun w h => (List.mem_append_left _ (List.mem_append_left _ (List.mem_append_left _ (List.mem_append_left _ (List.mem_append_left _ (List.mem_append_left _ (List.mem_append_left _ (List.mem_append_left _ (List.mem_append_left _ (List.mem_append_left _ (List.mem_append_left _ (List.mem_append_right _ (List.mem_append_right _ (List.mem_append_right _ (List.mem_append_right _ (List.mem_append_right _ (List.mem_append_right _ (List.mem_append_right _ (List.mem_append_right _ (List.mem_append_right _ (List.mem_append_right _ (List.mem_append_right _ (List.mem_append_right _ (List.mem_append_right _ (List.mem_append_left _ h)))))))))))))))))))))))))
theorem GG_14 : wsL_law0_r14.all goodWord = true := by decide +kernel
theorem GL_15 : ∀ w ∈ wsL_law0_r15, w ∈ wsL_law := fun w h => (List.mem_append_left _ (List.mem_append_left _ (List.mem_append_left _ (List.mem_append_left _ (List.mem_append_left _ (List.mem_append_left _ (List.mem_append_left _ (List.mem_append_left _ (List.mem_append_left _ (List.mem_append_left _ (List.mem_append_left _ (List.mem_append_right _ (List.mem_append_right _ (List.mem_append_right _ (List.mem_append_right _ (List.mem_append_right _ (List.mem_append_right _ (List.mem_append_right _ (List.mem_append_right _ (List.mem_append_right _ (List.mem_append_right _ (List.mem_append_right _ (List.mem_append_right _ (List.mem_append_right _ (List.mem_append_right _ (List.mem_append_left _ h))))))))))))))))))))))))))
theorem GG_15 : wsL_law0_r15.all goodWord = true := by decide +kernel
theorem GL_16 : ∀ w ∈ wsL_law0_r16, w ∈ wsL_law := fun w h => (List.mem_append_left _ (List.mem_append_left _ (List.mem_append_left _ (List.mem_append_left _ (List.mem_append_left _ (List.mem_append_left _ (List.mem_append_left _ (List.mem_append_left _ (List.mem_append_left _ (List.mem_append_left _ (List.mem_append_left _ (List.mem_append_right _ (List.mem_append_right _ (List.mem_append_right _ (List.mem_append_right _ (List.mem_append_right _ (List.mem_append_right _ (List.mem_append_right _ (List.mem_append_right _ (List.mem_append_right _ (List.mem_append_right _ (List.mem_append_right _ (List.mem_append_right _ (List.mem_append_right _ (List.mem_append_right _ (List.mem_append_right _ (List.mem_append_left _ h)))))))))))))))))))))))))))
theorem GG_16 : wsL_law0_r16.all goodWord = true := by decide +kernel
theorem GL_17 : ∀ w ∈ wsL_law0_r17, w ∈ wsL_law := fun w h => (List.mem_append_left _ (List.mem_append_left _ (List.mem_append_left _ (List.mem_append_left _ (List.mem_append_left _ (List.mem_append_left _ (List.mem_append_left _ (List.mem_append_left _ (List.mem_append_left _ (List.mem_append_left _ (List.mem_append_left _ (List.mem_append_right _ (List.mem_append_right _ (List.mem_append_right _ (List.mem_append_right _ (List.mem_append_right _ (List.mem_append_right _ (List.mem_append_right _ (List.mem_append_right _ (List.mem_append_right _ (List.mem_append_right _ (List.mem_append_right _ (List.mem_append_right _ (List.mem_append_right _ (List.mem_append_right _ (List.mem_append_right _ (List.mem_append_right _ (List.mem_append_left _ h))))))))))))))))))))))))))))
theorem GG_17 : wsL_law0_r17.all goodWord = true := by decide +kernel
theorem GL_18 : ∀ w ∈ wsL_law0_r18, w ∈ wsL_law := fun w h => (List.mem_append_left _ (List.mem_append_left _ (List.mem_append_left _ (List.mem_append_left _ (List.mem_append_left _ (List.mem_append_left _ (List.mem_append_left _ (List.mem_append_left _ (List.mem_append_left _ (List.mem_append_left _ (List.mem_append_left _ (List.mem_append_right _ (List.mem_append_right _ (List.mem_append_right _ (List.mem_append_right _ (List.mem_append_right _ (List.mem_append_right _ (List.mem_append_right _ (List.mem_append_right _ (List.mem_append_right _ (List.mem_append_right _ (List.mem_append_right _ (List.mem_append_right _ (List.mem_append_right _ (List.mem_append_right _ (List.mem_append_right _ (List.mem_append_right _ (List.mem_append_right _ (List.mem_append_left _ h)))))))))))))))))))))))))))))
theorem GG_18 : wsL_law0_r18.all goodWord = true := by decide +kernel
theorem GL_19 : ∀ w ∈ wsL_law0_r19, w ∈ wsL_law := fun w h => (List.mem_append_left _ (List.mem_append_left _ (List.mem_append_left _ (List.mem_append_left _ (List.mem_append_left _ (List.mem_append_left _ (List.mem_append_left _ (List.mem_append_left _ (List.mem_append_left _ (List.mem_append_left _ (List.mem_append_left _ (List.mem_append_right _ (List.mem_append_right _ (List.mem_append_right _ (List.mem_append_right _ (List.mem_append_right _ (List.mem_append_right _ (List.mem_append_right _ (List.mem_append_right _ (List.mem_append_right _ (List.mem_append_right _ (List.mem_append_right _ (List.mem_append_right _ (List.mem_append_right _ (List.mem_append_right _ (List.mem_append_right _ (List.mem_append_right _ (List.mem_append_right _ (List.mem_append_right _ (List.mem_append_left _ h))))))))))))))))))))))))))))))
theorem GG_19 : wsL_law0_r19.all goodWord = true := by decide +kernel
theorem GL_20 : ∀ w ∈ wsL_law0_r20, w ∈ wsL_law := fun w h => (List.mem_append_left _ (List.mem_append_left _ (List.mem_append_left _ (List.mem_append_left _ (List.mem_append_left _ (List.mem_append_left _ (List.mem_append_left _ (List.mem_append_left _ (List.mem_append_left _ (List.mem_append_left _ (List.mem_append_left _ (List.mem_append_right _ (List.mem_append_right _ (List.mem_append_right _ (List.mem_append_right _ (List.mem_append_right _ (List.mem_append_right _ (List.mem_append_right _ (List.mem_append_right _ (List.mem_append_right _ (List.mem_append_right _ (List.mem_append_right _ (List.mem_append_right _ (List.mem_append_right _ (List.mem_append_right _ (List.mem_append_right _ (List.mem_append_right _ (List.mem_append_right _ (List.mem_append_right _ (List.mem_append_right _ (List.mem_append_left _ h)))))))))))))))))))))))))))))))
theorem GG_20 : wsL_law0_r20.all goodWord = true := by decide +kernel
theorem GL_21 : ∀ w ∈ wsL_law0_r21, w ∈ wsL_law := fun w h => (List.mem_append_left _ (List.mem_append_left _ (List.mem_append_left _ (List.mem_append_left _ (List.mem_append_left _ (List.mem_append_left _ (List.mem_append_left _ (List.mem_append_left _ (List.mem_append_left _ (List.mem_append_left _ (List.mem_append_left _ (List.mem_append_right _ (List.mem_append_right _ (List.mem_append_right _ (List.mem_append_right _ (List.mem_append_right _ (List.mem_append_right _ (List.mem_append_right _ (List.mem_append_right _ (List.mem_append_right _ (List.mem_append_right _ (List.mem_append_right _ (List.mem_append_right _ (List.mem_append_right _ (List.mem_append_right _ (List.mem_append_right _ (List.mem_append_right _ (List.mem_append_right _ (List.mem_append_right _ (List.mem_append_right _ (List.mem_append_right _ (List.mem_append_left _ h))))))))))))))))))))))))))))))))
theorem GG_21 : wsL_law0_r21.all goodWord = true := by decide +kernel
theorem GL_22 : ∀ w ∈ wsL_law0_r22, w ∈ wsL_law := fun w h => (List.mem_append_left _ (List.mem_append_left _ (List.mem_append_left _ (List.mem_append_left _ (List.mem_append_left _ (List.mem_append_left _ (List.mem_append_left _ (List.mem_append_left _ (List.mem_append_left _ (List.mem_append_left _ (List.mem_append_left _ (List.mem_append_right _ (List.mem_append_right _ (List.mem_append_right _ (List.mem_append_right _ (List.mem_append_right _ (List.mem_append_right _ (List.mem_append_right _ (List.mem_append_right _ (List.mem_append_right _ (List.mem_append_right _ (List.mem_append_right _ (List.mem_append_right _ (List.mem_append_right _ (List.mem_append_right _ (List.mem_append_right _ (List.mem_append_right _ (List.mem_append_right _ (List.mem_append_right _ (List.mem_append_right _ (List.mem_append_right _ (List.mem_append_right _ (List.mem_append_left _ h)))))))))))))))))))))))))))))))))
theorem GG_22 : wsL_law0_r22.all goodWord = true := by decide +kernel
theorem GL_23 : ∀ w ∈ wsL_law0_r23, w ∈ wsL_law := fun w h => (List.mem_append_left _ (List.mem_append_left _ (List.mem_append_left _ (List.mem_append_left _ (List.mem_append_left _ (List.mem_append_left _ (List.mem_append_left _ (List.mem_append_left _ (List.mem_append_left _ (List.mem_append_left _ (List.mem_append_left _ (List.mem_append_right _ (List.mem_append_right _ (List.mem_append_right _ (List.mem_append_right _ (List.mem_append_right _ (List.mem_append_right _ (List.mem_append_right _ (List.mem_append_right _ (List.mem_append_right _ (List.mem_append_right _ (List.mem_append_right _ (List.mem_append_right _ (List.mem_append_right _ (List.mem_append_right _ (List.mem_append_right _ (List.mem_append_right _ (List.mem_append_right _ (List.mem_append_right _ (List.mem_append_right _ (List.mem_append_right _ (List.mem_append_right _ (List.mem_append_right _ (List.mem_append_left _ h))))))))))))))))))))))))))))))))))
theorem GG_23 : wsL_law0_r23.all goodWord = true := by decide +kernel
theorem GL_24 : ∀ w ∈ wsL_law0_r24, w ∈ wsL_law := fun w h => (List.mem_append_left _ (List.mem_append_left _ (List.mem_append_left _ (List.mem_append_left _ (List.mem_append_left _ (List.mem_append_left _ (List.mem_append_left _ (List.mem_append_left _ (List.mem_append_left _ (List.mem_append_left _ (List.mem_append_left _ (List.mem_append_right _ (List.mem_append_right _ (List.mem_append_right _ (List.mem_append_right _ (List.mem_append_right _ (List.mem_append_right _ (List.mem_append_right _ (List.mem_append_right _ (List.mem_append_right _ (List.mem_append_right _ (List.mem_append_right _ (List.mem_append_right _ (List.mem_append_right _ (List.mem_append_right _ (List.mem_append_right _ (List.mem_append_right _ (List.mem_append_right _ (List.mem_append_right _ (List.mem_append_right _ (List.mem_append_right _ (List.mem_append_right _ (List.mem_append_right _ (List.mem_append_right _ h))))))))))))))))))))))))))))))))))
theorem GG_24 : wsL_law0_r24.all goodWord = true := by decide +kernel
theorem GX_6 : wsX60.all goodWord = true := by decide +kernel
theorem GX_3 : wsX30.all goodWord = true := by decide +kernel
theorem GX_1 : wsX10.all goodWord = true := by decide +kernel
theorem GX_5 : wsX50.all goodWord = true := by decide +kernel
theorem GX_4 : wsX40.all goodWord = true := by decide +kernel
theorem GX_2 : wsX20.all goodWord = true := by decide +kernel
theorem GX_0 : wsX00.all goodWord = true := by decide +kernel
theorem GT_96 : ∀ w ∈ (vx_atS RX6 96 "java/lang/IllegalArgumentException" ["java/lang/RuntimeException", "java/lang/Exception"]).filter goodWord, w ∈ wsL_law := fun w h => (List.mem_append_left _ (List.mem_append_left _ (List.mem_append_right _ h)))
theorem GT_110 : ∀ w ∈ (vx_atS RX6 110 "java/lang/IndexOutOfBoundsException" ["java/lang/RuntimeException", "java/lang/Exception"]).filter goodWord, w ∈ wsL_law := fun w h => (List.mem_append_left _ (List.mem_append_right _ h))
theorem GT_56 : ∀ w ∈ (vx_atS RX6 56 "java/lang/IllegalStateException" ["java/lang/RuntimeException", "java/lang/Exception"]).filter goodWord, w ∈ wsL_law := fun w h => (List.mem_append_right _ h)
theorem all_app {l1 l2 : List Cond} (h1 : l1.all goodWord = true) (h2 : l2.all goodWord = true) : (l1 ++ l2).all goodWord = true := by rw [List.all_append, h1, h2]; rfl
theorem all_flt (l1 : List Cond) : (l1.filter goodWord).all goodWord = true := List.all_eq_true.mpr fun w h => (List.mem_filter.mp h).2
theorem GG_0 : wsL_law0.all goodWord = true := (all_app (all_app (all_app (all_app (all_app (all_app (all_app (all_app (all_app GG_1 (all_app GG_2 (all_app GG_3 (all_app GG_4 (all_app GG_5 (all_app GG_6 (all_app GG_7 (all_app GG_8 (all_app GG_9 (all_app GG_10 (all_app GG_11 (all_app GG_12 (all_app GG_13 (all_app GG_14 (all_app GG_15 (all_app GG_16 (all_app GG_17 (all_app GG_18 (all_app GG_19 (all_app GG_20 (all_app GG_21 (all_app GG_22 (all_app GG_23 GG_24))))))))))))))))))))))) GX_6) GX_3) GX_1) GX_5) GX_4) GX_2) GX_0) (rfl : ([] : List Cond).all goodWord = true))
theorem GG_all : wsL_law.all goodWord = true := (all_app (all_app (all_app GG_0 (all_flt _)) (all_flt _)) (all_flt _))
/-- a method's words: its code first, then the one list -/
abbrev WW (w : Cond) : List Cond := w :: wsL_law
theorem gl_W {w w1 : Cond} (h : w1 ∈ wsL_law) : GoodIn (WW w) (WW w1) := fun v hv => by
  have h1 : v ∈ wsL_law := (List.mem_cons.mp hv).elim (fun e => e ▸ h) id
  exact ⟨List.mem_cons_of_mem _ h1, good_of_word (List.all_eq_true.mp GG_all v h1)⟩
theorem gl_in {w v : Cond} (h : v ∈ wsL_law) : v ∈ WW w ∧ ((v.onTables && v.keeps) = true ∨ ∃ ty, v = .arrayClass ty) := ⟨List.mem_cons_of_mem _ h, good_of_word (List.all_eq_true.mp GG_all v h)⟩
theorem gl_V {w w1 : Cond} {own C : String} {ix : Nat} {y : MethodName} (h0 : .methodLink own ix y ∈ wsL_law) (h1 : .instanceMethod y ∈ wsL_law) (h2 : .selects C y y ∈ wsL_law) (h3 : .initialized C ∈ wsL_law) (h4 : w1 ∈ wsL_law) : GoodIn (WW w) (wsV own ix C y (WW w1)) := by
  intro v hv
  rcases List.mem_append.mp hv with hv | hv
  · simp only [List.mem_cons, List.not_mem_nil, or_false] at hv
    rcases hv with rfl | rfl | rfl | rfl <;> first | exact gl_in h0 | exact gl_in h1 | exact gl_in h2 | exact gl_in h3
  · exact gl_W h4 v hv
theorem gl_S {w w1 : Cond} {own : String} {ix : Nat} {y : MethodName} (h0 : .methodLink own ix y ∈ wsL_law) (h1 : .static y ∈ wsL_law) (h3 : .initialized y.cls ∈ wsL_law) (h4 : w1 ∈ wsL_law) : GoodIn (WW w) (va_wsS own ix y (WW w1)) := by
  intro v hv
  rcases List.mem_append.mp hv with hv | hv
  · simp only [List.mem_cons, List.not_mem_nil, or_false] at hv
    rcases hv with rfl | rfl | rfl <;> first | exact gl_in h0 | exact gl_in h1 | exact gl_in h3
  · exact gl_W h4 v hv
end
section
theorem dX0_init_0 : decode cX0_init 0 = .ok (.aload_n 0, 1) := by decide +kernel
theorem dX0_init_1 : decode cX0_init 1 = .ok (.invokespecial 3, 3) := by decide +kernel
theorem dX0_init_4 : decode cX0_init 4 = .ok (.return_, 1) := by decide +kernel
theorem dX0_place_0 : decode cX0_place 0 = .ok (.aload_n 2, 1) := by decide +kernel
theorem dX0_place_1 : decode cX0_place 1 = .ok (.getfield 9, 3) := by decide +kernel
theorem dX0_place_4 : decode cX0_place 4 = .ok (.ifCond .gt 8, 3) := by decide +kernel
theorem dX0_place_7 : decode cX0_place 7 = .ok (.aload_n 0, 1) := by decide +kernel
theorem dX0_place_8 : decode cX0_place 8 = .ok (.invokevirtual 15, 3) := by decide +kernel
theorem dX0_place_11 : decode cX0_place 11 = .ok (.return_, 1) := by decide +kernel
theorem dX0_place_12 : decode cX0_place 12 = .ok (.aload_n 0, 1) := by decide +kernel
theorem dX0_place_13 : decode cX0_place 13 = .ok (.aload_n 1, 1) := by decide +kernel
theorem dX0_place_14 : decode cX0_place 14 = .ok (.getfield 20, 3) := by decide +kernel
theorem dX0_place_17 : decode cX0_place 17 = .ok (.iconst 2, 1) := by decide +kernel
theorem dX0_place_18 : decode cX0_place 18 = .ok (.iaload, 1) := by decide +kernel
theorem dX0_place_19 : decode cX0_place 19 = .ok (.aload_n 2, 1) := by decide +kernel
theorem dX0_place_20 : decode cX0_place 20 = .ok (.getfield 26, 3) := by decide +kernel
theorem dX0_place_23 : decode cX0_place 23 = .ok (.imul, 1) := by decide +kernel
theorem dX0_place_24 : decode cX0_place 24 = .ok (.aload_n 1, 1) := by decide +kernel
theorem dX0_place_25 : decode cX0_place 25 = .ok (.getfield 29, 3) := by decide +kernel
theorem dX0_place_28 : decode cX0_place 28 = .ok (.iconst 2, 1) := by decide +kernel
theorem dX0_place_29 : decode cX0_place 29 = .ok (.iaload, 1) := by decide +kernel
theorem dX0_place_30 : decode cX0_place 30 = .ok (.invokestatic 32, 3) := by decide +kernel
theorem dX0_place_33 : decode cX0_place 33 = .ok (.putfield 38, 3) := by decide +kernel
theorem dX0_place_36 : decode cX0_place 36 = .ok (.aload_n 0, 1) := by decide +kernel
theorem dX0_place_37 : decode cX0_place 37 = .ok (.aload_n 1, 1) := by decide +kernel
theorem dX0_place_38 : decode cX0_place 38 = .ok (.getfield 20, 3) := by decide +kernel
theorem dX0_place_41 : decode cX0_place 41 = .ok (.iconst 3, 1) := by decide +kernel
theorem dX0_place_42 : decode cX0_place 42 = .ok (.iaload, 1) := by decide +kernel
theorem dX0_place_43 : decode cX0_place 43 = .ok (.aload_n 2, 1) := by decide +kernel
theorem dX0_place_44 : decode cX0_place 44 = .ok (.getfield 41, 3) := by decide +kernel
theorem dX0_place_47 : decode cX0_place 47 = .ok (.imul, 1) := by decide +kernel
theorem dX0_place_48 : decode cX0_place 48 = .ok (.aload_n 1, 1) := by decide +kernel
theorem dX0_place_49 : decode cX0_place 49 = .ok (.getfield 29, 3) := by decide +kernel
theorem dX0_place_52 : decode cX0_place 52 = .ok (.iconst 3, 1) := by decide +kernel
theorem dX0_place_53 : decode cX0_place 53 = .ok (.iaload, 1) := by decide +kernel
theorem dX0_place_54 : decode cX0_place 54 = .ok (.invokestatic 32, 3) := by decide +kernel
theorem dX0_place_57 : decode cX0_place 57 = .ok (.putfield 44, 3) := by decide +kernel
theorem dX0_place_60 : decode cX0_place 60 = .ok (.iconst 0, 1) := by decide +kernel
theorem dX0_place_61 : decode cX0_place 61 = .ok (.istore 4, 2) := by decide +kernel
theorem dX0_place_63 : decode cX0_place 63 = .ok (.bipush 41, 2) := by decide +kernel
theorem dX0_place_65 : decode cX0_place 65 = .ok (.istore 5, 2) := by decide +kernel
theorem dX0_place_67 : decode cX0_place 67 = .ok (.iconst 0, 1) := by decide +kernel
theorem dX0_place_68 : decode cX0_place 68 = .ok (.istore 6, 2) := by decide +kernel
theorem dX0_place_70 : decode cX0_place 70 = .ok (.iload 6, 2) := by decide +kernel
theorem dX0_place_72 : decode cX0_place 72 = .ok (.iconst 4, 1) := by decide +kernel
theorem dX0_place_73 : decode cX0_place 73 = .ok (.if_icmp .ge 39, 3) := by decide +kernel
theorem dX0_place_76 : decode cX0_place 76 = .ok (.aload_n 0, 1) := by decide +kernel
theorem dX0_place_77 : decode cX0_place 77 = .ok (.aload_n 1, 1) := by decide +kernel
theorem dX0_place_78 : decode cX0_place 78 = .ok (.iload 6, 2) := by decide +kernel
theorem dX0_place_80 : decode cX0_place 80 = .ok (.invokevirtual 47, 3) := by decide +kernel
theorem dX0_place_83 : decode cX0_place 83 = .ok (.aload_n 0, 1) := by decide +kernel
theorem dX0_place_84 : decode cX0_place 84 = .ok (.aload_n 1, 1) := by decide +kernel
theorem dX0_place_85 : decode cX0_place 85 = .ok (.aload_n 3, 1) := by decide +kernel
theorem dX0_place_86 : decode cX0_place 86 = .ok (.invokevirtual 51, 3) := by decide +kernel
theorem dX0_place_89 : decode cX0_place 89 = .ok (.istore 7, 2) := by decide +kernel
theorem dX0_place_91 : decode cX0_place 91 = .ok (.iload 7, 2) := by decide +kernel
theorem dX0_place_93 : decode cX0_place 93 = .ok (.iload 5, 2) := by decide +kernel
theorem dX0_place_95 : decode cX0_place 95 = .ok (.if_icmp .ge 11, 3) := by decide +kernel
theorem dX0_place_98 : decode cX0_place 98 = .ok (.iload 7, 2) := by decide +kernel
theorem dX0_place_100 : decode cX0_place 100 = .ok (.istore 5, 2) := by decide +kernel
theorem dX0_place_102 : decode cX0_place 102 = .ok (.iload 6, 2) := by decide +kernel
theorem dX0_place_104 : decode cX0_place 104 = .ok (.istore 4, 2) := by decide +kernel
theorem dX0_place_106 : decode cX0_place 106 = .ok (.iinc 6 1, 3) := by decide +kernel
theorem dX0_place_109 : decode cX0_place 109 = .ok (.goto (-39), 3) := by decide +kernel
theorem dX0_place_112 : decode cX0_place 112 = .ok (.aload_n 0, 1) := by decide +kernel
theorem dX0_place_113 : decode cX0_place 113 = .ok (.aload_n 1, 1) := by decide +kernel
theorem dX0_place_114 : decode cX0_place 114 = .ok (.iload 4, 2) := by decide +kernel
theorem dX0_place_116 : decode cX0_place 116 = .ok (.invokevirtual 47, 3) := by decide +kernel
theorem dX0_place_119 : decode cX0_place 119 = .ok (.aload_n 0, 1) := by decide +kernel
theorem dX0_place_120 : decode cX0_place 120 = .ok (.iload 5, 2) := by decide +kernel
theorem dX0_place_122 : decode cX0_place 122 = .ok (.putfield 55, 3) := by decide +kernel
theorem dX0_place_125 : decode cX0_place 125 = .ok (.return_, 1) := by decide +kernel
theorem dX0_vanish_0 : decode cX0_vanish 0 = .ok (.aload_n 0, 1) := by decide +kernel
theorem dX0_vanish_1 : decode cX0_vanish 1 = .ok (.iconst (-1), 1) := by decide +kernel
theorem dX0_vanish_2 : decode cX0_vanish 2 = .ok (.putfield 58, 3) := by decide +kernel
theorem dX0_vanish_5 : decode cX0_vanish 5 = .ok (.aload_n 0, 1) := by decide +kernel
theorem dX0_vanish_6 : decode cX0_vanish 6 = .ok (.iconst (-1), 1) := by decide +kernel
theorem dX0_vanish_7 : decode cX0_vanish 7 = .ok (.putfield 61, 3) := by decide +kernel
theorem dX0_vanish_10 : decode cX0_vanish 10 = .ok (.aload_n 0, 1) := by decide +kernel
theorem dX0_vanish_11 : decode cX0_vanish 11 = .ok (.iconst (-1), 1) := by decide +kernel
theorem dX0_vanish_12 : decode cX0_vanish 12 = .ok (.putfield 64, 3) := by decide +kernel
theorem dX0_vanish_15 : decode cX0_vanish 15 = .ok (.aload_n 0, 1) := by decide +kernel
theorem dX0_vanish_16 : decode cX0_vanish 16 = .ok (.iconst (-1), 1) := by decide +kernel
theorem dX0_vanish_17 : decode cX0_vanish 17 = .ok (.putfield 38, 3) := by decide +kernel
theorem dX0_vanish_20 : decode cX0_vanish 20 = .ok (.aload_n 0, 1) := by decide +kernel
theorem dX0_vanish_21 : decode cX0_vanish 21 = .ok (.iconst (-1), 1) := by decide +kernel
theorem dX0_vanish_22 : decode cX0_vanish 22 = .ok (.putfield 44, 3) := by decide +kernel
theorem dX0_vanish_25 : decode cX0_vanish 25 = .ok (.aload_n 0, 1) := by decide +kernel
theorem dX0_vanish_26 : decode cX0_vanish 26 = .ok (.iconst (-1), 1) := by decide +kernel
theorem dX0_vanish_27 : decode cX0_vanish 27 = .ok (.putfield 55, 3) := by decide +kernel
theorem dX0_vanish_30 : decode cX0_vanish 30 = .ok (.return_, 1) := by decide +kernel
theorem dX0_moveTo_0 : decode cX0_moveTo 0 = .ok (.aload_n 0, 1) := by decide +kernel
theorem dX0_moveTo_1 : decode cX0_moveTo 1 = .ok (.iload_n 2, 1) := by decide +kernel
theorem dX0_moveTo_2 : decode cX0_moveTo 2 = .ok (.putfield 58, 3) := by decide +kernel
theorem dX0_moveTo_5 : decode cX0_moveTo 5 = .ok (.iload_n 2, 1) := by decide +kernel
theorem dX0_moveTo_6 : decode cX0_moveTo 6 = .ok (.iconst 1, 1) := by decide +kernel
theorem dX0_moveTo_7 : decode cX0_moveTo 7 = .ok (.if_icmp .eq 8, 3) := by decide +kernel
theorem dX0_moveTo_10 : decode cX0_moveTo 10 = .ok (.iload_n 2, 1) := by decide +kernel
theorem dX0_moveTo_11 : decode cX0_moveTo 11 = .ok (.iconst 3, 1) := by decide +kernel
theorem dX0_moveTo_12 : decode cX0_moveTo 12 = .ok (.if_icmp .ne 7, 3) := by decide +kernel
theorem dX0_moveTo_15 : decode cX0_moveTo 15 = .ok (.iconst 1, 1) := by decide +kernel
theorem dX0_moveTo_16 : decode cX0_moveTo 16 = .ok (.goto 4, 3) := by decide +kernel
theorem dX0_moveTo_19 : decode cX0_moveTo 19 = .ok (.iconst 0, 1) := by decide +kernel
theorem dX0_moveTo_20 : decode cX0_moveTo 20 = .ok (.istore_n 3, 1) := by decide +kernel
theorem dX0_moveTo_21 : decode cX0_moveTo 21 = .ok (.iload_n 2, 1) := by decide +kernel
theorem dX0_moveTo_22 : decode cX0_moveTo 22 = .ok (.iconst 2, 1) := by decide +kernel
theorem dX0_moveTo_23 : decode cX0_moveTo 23 = .ok (.if_icmp .eq 8, 3) := by decide +kernel
theorem dX0_moveTo_26 : decode cX0_moveTo 26 = .ok (.iload_n 2, 1) := by decide +kernel
theorem dX0_moveTo_27 : decode cX0_moveTo 27 = .ok (.iconst 3, 1) := by decide +kernel
theorem dX0_moveTo_28 : decode cX0_moveTo 28 = .ok (.if_icmp .ne 7, 3) := by decide +kernel
theorem dX0_moveTo_31 : decode cX0_moveTo 31 = .ok (.iconst 1, 1) := by decide +kernel
theorem dX0_moveTo_32 : decode cX0_moveTo 32 = .ok (.goto 4, 3) := by decide +kernel
theorem dX0_moveTo_35 : decode cX0_moveTo 35 = .ok (.iconst 0, 1) := by decide +kernel
theorem dX0_moveTo_36 : decode cX0_moveTo 36 = .ok (.istore 4, 2) := by decide +kernel
theorem dX0_moveTo_38 : decode cX0_moveTo 38 = .ok (.aload_n 0, 1) := by decide +kernel
theorem dX0_moveTo_39 : decode cX0_moveTo 39 = .ok (.aload_n 1, 1) := by decide +kernel
theorem dX0_moveTo_40 : decode cX0_moveTo 40 = .ok (.getfield 29, 3) := by decide +kernel
theorem dX0_moveTo_43 : decode cX0_moveTo 43 = .ok (.iconst 0, 1) := by decide +kernel
theorem dX0_moveTo_44 : decode cX0_moveTo 44 = .ok (.iaload, 1) := by decide +kernel
theorem dX0_moveTo_45 : decode cX0_moveTo 45 = .ok (.iload_n 3, 1) := by decide +kernel
theorem dX0_moveTo_46 : decode cX0_moveTo 46 = .ok (.ifCond .eq 17, 3) := by decide +kernel
theorem dX0_moveTo_49 : decode cX0_moveTo 49 = .ok (.aload_n 1, 1) := by decide +kernel
theorem dX0_moveTo_50 : decode cX0_moveTo 50 = .ok (.getfield 29, 3) := by decide +kernel
theorem dX0_moveTo_53 : decode cX0_moveTo 53 = .ok (.iconst 2, 1) := by decide +kernel
theorem dX0_moveTo_54 : decode cX0_moveTo 54 = .ok (.iaload, 1) := by decide +kernel
theorem dX0_moveTo_55 : decode cX0_moveTo 55 = .ok (.aload_n 0, 1) := by decide +kernel
theorem dX0_moveTo_56 : decode cX0_moveTo 56 = .ok (.getfield 38, 3) := by decide +kernel
theorem dX0_moveTo_59 : decode cX0_moveTo 59 = .ok (.isub, 1) := by decide +kernel
theorem dX0_moveTo_60 : decode cX0_moveTo 60 = .ok (.goto 4, 3) := by decide +kernel
theorem dX0_moveTo_63 : decode cX0_moveTo 63 = .ok (.iconst 0, 1) := by decide +kernel
theorem dX0_moveTo_64 : decode cX0_moveTo 64 = .ok (.iadd, 1) := by decide +kernel
theorem dX0_moveTo_65 : decode cX0_moveTo 65 = .ok (.putfield 61, 3) := by decide +kernel
theorem dX0_moveTo_68 : decode cX0_moveTo 68 = .ok (.aload_n 0, 1) := by decide +kernel
theorem dX0_moveTo_69 : decode cX0_moveTo 69 = .ok (.aload_n 1, 1) := by decide +kernel
theorem dX0_moveTo_70 : decode cX0_moveTo 70 = .ok (.getfield 29, 3) := by decide +kernel
theorem dX0_moveTo_73 : decode cX0_moveTo 73 = .ok (.iconst 1, 1) := by decide +kernel
theorem dX0_moveTo_74 : decode cX0_moveTo 74 = .ok (.iaload, 1) := by decide +kernel
theorem dX0_moveTo_75 : decode cX0_moveTo 75 = .ok (.iload 4, 2) := by decide +kernel
theorem dX0_moveTo_77 : decode cX0_moveTo 77 = .ok (.ifCond .eq 17, 3) := by decide +kernel
theorem dX0_moveTo_80 : decode cX0_moveTo 80 = .ok (.aload_n 1, 1) := by decide +kernel
theorem dX0_moveTo_81 : decode cX0_moveTo 81 = .ok (.getfield 29, 3) := by decide +kernel
theorem dX0_moveTo_84 : decode cX0_moveTo 84 = .ok (.iconst 3, 1) := by decide +kernel
theorem dX0_moveTo_85 : decode cX0_moveTo 85 = .ok (.iaload, 1) := by decide +kernel
theorem dX0_moveTo_86 : decode cX0_moveTo 86 = .ok (.aload_n 0, 1) := by decide +kernel
theorem dX0_moveTo_87 : decode cX0_moveTo 87 = .ok (.getfield 44, 3) := by decide +kernel
theorem dX0_moveTo_90 : decode cX0_moveTo 90 = .ok (.isub, 1) := by decide +kernel
theorem dX0_moveTo_91 : decode cX0_moveTo 91 = .ok (.goto 4, 3) := by decide +kernel
theorem dX0_moveTo_94 : decode cX0_moveTo 94 = .ok (.iconst 0, 1) := by decide +kernel
theorem dX0_moveTo_95 : decode cX0_moveTo 95 = .ok (.iadd, 1) := by decide +kernel
theorem dX0_moveTo_96 : decode cX0_moveTo 96 = .ok (.putfield 64, 3) := by decide +kernel
theorem dX0_moveTo_99 : decode cX0_moveTo 99 = .ok (.return_, 1) := by decide +kernel
theorem dX0_countCovered_0 : decode cX0_countCovered 0 = .ok (.iconst 0, 1) := by decide +kernel
theorem dX0_countCovered_1 : decode cX0_countCovered 1 = .ok (.istore_n 3, 1) := by decide +kernel
theorem dX0_countCovered_2 : decode cX0_countCovered 2 = .ok (.iconst 0, 1) := by decide +kernel
theorem dX0_countCovered_3 : decode cX0_countCovered 3 = .ok (.istore 4, 2) := by decide +kernel
theorem dX0_countCovered_5 : decode cX0_countCovered 5 = .ok (.iload 4, 2) := by decide +kernel
theorem dX0_countCovered_7 : decode cX0_countCovered 7 = .ok (.aload_n 1, 1) := by decide +kernel
theorem dX0_countCovered_8 : decode cX0_countCovered 8 = .ok (.getfield 67, 3) := by decide +kernel
theorem dX0_countCovered_11 : decode cX0_countCovered 11 = .ok (.if_icmp .ge 29, 3) := by decide +kernel
theorem dX0_countCovered_14 : decode cX0_countCovered 14 = .ok (.aload_n 2, 1) := by decide +kernel
theorem dX0_countCovered_15 : decode cX0_countCovered 15 = .ok (.iload 4, 2) := by decide +kernel
theorem dX0_countCovered_17 : decode cX0_countCovered 17 = .ok (.baload, 1) := by decide +kernel
theorem dX0_countCovered_18 : decode cX0_countCovered 18 = .ok (.ifCond .eq 16, 3) := by decide +kernel
theorem dX0_countCovered_21 : decode cX0_countCovered 21 = .ok (.aload_n 0, 1) := by decide +kernel
theorem dX0_countCovered_22 : decode cX0_countCovered 22 = .ok (.aload_n 1, 1) := by decide +kernel
theorem dX0_countCovered_23 : decode cX0_countCovered 23 = .ok (.iload 4, 2) := by decide +kernel
theorem dX0_countCovered_25 : decode cX0_countCovered 25 = .ok (.invokevirtual 70, 3) := by decide +kernel
theorem dX0_countCovered_28 : decode cX0_countCovered 28 = .ok (.ifCond .eq 6, 3) := by decide +kernel
theorem dX0_countCovered_31 : decode cX0_countCovered 31 = .ok (.iinc 3 1, 3) := by decide +kernel
theorem dX0_countCovered_34 : decode cX0_countCovered 34 = .ok (.iinc 4 1, 3) := by decide +kernel
theorem dX0_countCovered_37 : decode cX0_countCovered 37 = .ok (.goto (-32), 3) := by decide +kernel
theorem dX0_countCovered_40 : decode cX0_countCovered 40 = .ok (.iload_n 3, 1) := by decide +kernel
theorem dX0_countCovered_41 : decode cX0_countCovered 41 = .ok (.ireturn, 1) := by decide +kernel
theorem dX0_covers_0 : decode cX0_covers 0 = .ok (.aload_n 1, 1) := by decide +kernel
theorem dX0_covers_1 : decode cX0_covers 1 = .ok (.getfield 74, 3) := by decide +kernel
theorem dX0_covers_4 : decode cX0_covers 4 = .ok (.iload_n 2, 1) := by decide +kernel
theorem dX0_covers_5 : decode cX0_covers 5 = .ok (.iaload, 1) := by decide +kernel
theorem dX0_covers_6 : decode cX0_covers 6 = .ok (.aload_n 0, 1) := by decide +kernel
theorem dX0_covers_7 : decode cX0_covers 7 = .ok (.getfield 61, 3) := by decide +kernel
theorem dX0_covers_10 : decode cX0_covers 10 = .ok (.isub, 1) := by decide +kernel
theorem dX0_covers_11 : decode cX0_covers 11 = .ok (.istore_n 3, 1) := by decide +kernel
theorem dX0_covers_12 : decode cX0_covers 12 = .ok (.aload_n 1, 1) := by decide +kernel
theorem dX0_covers_13 : decode cX0_covers 13 = .ok (.getfield 77, 3) := by decide +kernel
theorem dX0_covers_16 : decode cX0_covers 16 = .ok (.iload_n 2, 1) := by decide +kernel
theorem dX0_covers_17 : decode cX0_covers 17 = .ok (.iaload, 1) := by decide +kernel
theorem dX0_covers_18 : decode cX0_covers 18 = .ok (.aload_n 0, 1) := by decide +kernel
theorem dX0_covers_19 : decode cX0_covers 19 = .ok (.getfield 64, 3) := by decide +kernel
theorem dX0_covers_22 : decode cX0_covers 22 = .ok (.isub, 1) := by decide +kernel
theorem dX0_covers_23 : decode cX0_covers 23 = .ok (.istore 4, 2) := by decide +kernel
theorem dX0_covers_25 : decode cX0_covers 25 = .ok (.aload_n 0, 1) := by decide +kernel
theorem dX0_covers_26 : decode cX0_covers 26 = .ok (.getfield 58, 3) := by decide +kernel
theorem dX0_covers_29 : decode cX0_covers 29 = .ok (.iconst (-1), 1) := by decide +kernel
theorem dX0_covers_30 : decode cX0_covers 30 = .ok (.if_icmp .eq 33, 3) := by decide +kernel
theorem dX0_covers_33 : decode cX0_covers 33 = .ok (.iload_n 3, 1) := by decide +kernel
theorem dX0_covers_34 : decode cX0_covers 34 = .ok (.ifCond .lt 29, 3) := by decide +kernel
theorem dX0_covers_37 : decode cX0_covers 37 = .ok (.iload_n 3, 1) := by decide +kernel
theorem dX0_covers_38 : decode cX0_covers 38 = .ok (.aload_n 0, 1) := by decide +kernel
theorem dX0_covers_39 : decode cX0_covers 39 = .ok (.getfield 38, 3) := by decide +kernel
theorem dX0_covers_42 : decode cX0_covers 42 = .ok (.if_icmp .ge 21, 3) := by decide +kernel
theorem dX0_covers_45 : decode cX0_covers 45 = .ok (.iload 4, 2) := by decide +kernel
theorem dX0_covers_47 : decode cX0_covers 47 = .ok (.ifCond .lt 16, 3) := by decide +kernel
theorem dX0_covers_50 : decode cX0_covers 50 = .ok (.iload 4, 2) := by decide +kernel
theorem dX0_covers_52 : decode cX0_covers 52 = .ok (.aload_n 0, 1) := by decide +kernel
theorem dX0_covers_53 : decode cX0_covers 53 = .ok (.getfield 44, 3) := by decide +kernel
theorem dX0_covers_56 : decode cX0_covers 56 = .ok (.if_icmp .ge 7, 3) := by decide +kernel
theorem dX0_covers_59 : decode cX0_covers 59 = .ok (.iconst 1, 1) := by decide +kernel
theorem dX0_covers_60 : decode cX0_covers 60 = .ok (.goto 4, 3) := by decide +kernel
theorem dX0_covers_63 : decode cX0_covers 63 = .ok (.iconst 0, 1) := by decide +kernel
theorem dX0_covers_64 : decode cX0_covers 64 = .ok (.ireturn, 1) := by decide +kernel
theorem dX0_fact_0 : decode cX0_fact 0 = .ok (.iload_n 1, 1) := by decide +kernel
theorem dX0_fact_1 : decode cX0_fact 1 = .ok (.tableswitch 60 0 4 #[35, 40, 45, 50, 55], 35) := by decide +kernel
theorem dX0_fact_36 : decode cX0_fact 36 = .ok (.aload_n 0, 1) := by decide +kernel
theorem dX0_fact_37 : decode cX0_fact 37 = .ok (.getfield 58, 3) := by decide +kernel
theorem dX0_fact_40 : decode cX0_fact 40 = .ok (.ireturn, 1) := by decide +kernel
theorem dX0_fact_41 : decode cX0_fact 41 = .ok (.aload_n 0, 1) := by decide +kernel
theorem dX0_fact_42 : decode cX0_fact 42 = .ok (.getfield 61, 3) := by decide +kernel
theorem dX0_fact_45 : decode cX0_fact 45 = .ok (.ireturn, 1) := by decide +kernel
theorem dX0_fact_46 : decode cX0_fact 46 = .ok (.aload_n 0, 1) := by decide +kernel
theorem dX0_fact_47 : decode cX0_fact 47 = .ok (.getfield 64, 3) := by decide +kernel
theorem dX0_fact_50 : decode cX0_fact 50 = .ok (.ireturn, 1) := by decide +kernel
theorem dX0_fact_51 : decode cX0_fact 51 = .ok (.aload_n 0, 1) := by decide +kernel
theorem dX0_fact_52 : decode cX0_fact 52 = .ok (.getfield 38, 3) := by decide +kernel
theorem dX0_fact_55 : decode cX0_fact 55 = .ok (.ireturn, 1) := by decide +kernel
theorem dX0_fact_56 : decode cX0_fact 56 = .ok (.aload_n 0, 1) := by decide +kernel
theorem dX0_fact_57 : decode cX0_fact 57 = .ok (.getfield 44, 3) := by decide +kernel
theorem dX0_fact_60 : decode cX0_fact 60 = .ok (.ireturn, 1) := by decide +kernel
theorem dX0_fact_61 : decode cX0_fact 61 = .ok (.aload_n 0, 1) := by decide +kernel
theorem dX0_fact_62 : decode cX0_fact 62 = .ok (.getfield 55, 3) := by decide +kernel
theorem dX0_fact_65 : decode cX0_fact 65 = .ok (.ireturn, 1) := by decide +kernel
theorem dX1_init_0 : decode cX1_init 0 = .ok (.aload_n 0, 1) := by decide +kernel
theorem dX1_init_1 : decode cX1_init 1 = .ok (.invokespecial 3, 3) := by decide +kernel
theorem dX1_init_4 : decode cX1_init 4 = .ok (.aload_n 0, 1) := by decide +kernel
theorem dX1_init_5 : decode cX1_init 5 = .ok (.bipush 40, 2) := by decide +kernel
theorem dX1_init_7 : decode cX1_init 7 = .ok (.newarray .boolean, 2) := by decide +kernel
theorem dX1_init_9 : decode cX1_init 9 = .ok (.putfield 9, 3) := by decide +kernel
theorem dX1_init_12 : decode cX1_init 12 = .ok (.aload_n 0, 1) := by decide +kernel
theorem dX1_init_13 : decode cX1_init 13 = .ok (.bipush 40, 2) := by decide +kernel
theorem dX1_init_15 : decode cX1_init 15 = .ok (.newarray .boolean, 2) := by decide +kernel
theorem dX1_init_17 : decode cX1_init 17 = .ok (.putfield 15, 3) := by decide +kernel
theorem dX1_init_20 : decode cX1_init 20 = .ok (.aload_n 0, 1) := by decide +kernel
theorem dX1_init_21 : decode cX1_init 21 = .ok (.new 18, 3) := by decide +kernel
theorem dX1_init_24 : decode cX1_init 24 = .ok (.dup, 1) := by decide +kernel
theorem dX1_init_25 : decode cX1_init 25 = .ok (.invokespecial 20, 3) := by decide +kernel
theorem dX1_init_28 : decode cX1_init 28 = .ok (.putfield 21, 3) := by decide +kernel
theorem dX1_init_31 : decode cX1_init 31 = .ok (.aload_n 0, 1) := by decide +kernel
theorem dX1_init_32 : decode cX1_init 32 = .ok (.new 25, 3) := by decide +kernel
theorem dX1_init_35 : decode cX1_init 35 = .ok (.dup, 1) := by decide +kernel
theorem dX1_init_36 : decode cX1_init 36 = .ok (.invokespecial 27, 3) := by decide +kernel
theorem dX1_init_39 : decode cX1_init 39 = .ok (.putfield 28, 3) := by decide +kernel
theorem dX1_init_42 : decode cX1_init 42 = .ok (.aload_n 0, 1) := by decide +kernel
theorem dX1_init_43 : decode cX1_init 43 = .ok (.new 25, 3) := by decide +kernel
theorem dX1_init_46 : decode cX1_init 46 = .ok (.dup, 1) := by decide +kernel
theorem dX1_init_47 : decode cX1_init 47 = .ok (.invokespecial 27, 3) := by decide +kernel
theorem dX1_init_50 : decode cX1_init 50 = .ok (.putfield 32, 3) := by decide +kernel
theorem dX1_init_53 : decode cX1_init 53 = .ok (.aload_n 0, 1) := by decide +kernel
theorem dX1_init_54 : decode cX1_init 54 = .ok (.new 35, 3) := by decide +kernel
theorem dX1_init_57 : decode cX1_init 57 = .ok (.dup, 1) := by decide +kernel
theorem dX1_init_58 : decode cX1_init 58 = .ok (.invokespecial 37, 3) := by decide +kernel
theorem dX1_init_61 : decode cX1_init 61 = .ok (.putfield 38, 3) := by decide +kernel
theorem dX1_init_64 : decode cX1_init 64 = .ok (.return_, 1) := by decide +kernel
theorem dX1_make_0 : decode cX1_make 0 = .ok (.aload_n 0, 1) := by decide +kernel
theorem dX1_make_1 : decode cX1_make 1 = .ok (.getfield 42, 3) := by decide +kernel
theorem dX1_make_4 : decode cX1_make 4 = .ok (.ifCond .eq 4, 3) := by decide +kernel
theorem dX1_make_7 : decode cX1_make 7 = .ok (.return_, 1) := by decide +kernel
theorem dX1_make_8 : decode cX1_make 8 = .ok (.aload_n 0, 1) := by decide +kernel
theorem dX1_make_9 : decode cX1_make 9 = .ok (.aload_n 1, 1) := by decide +kernel
theorem dX1_make_10 : decode cX1_make 10 = .ok (.invokevirtual 46, 3) := by decide +kernel
theorem dX1_make_13 : decode cX1_make 13 = .ok (.aload_n 0, 1) := by decide +kernel
theorem dX1_make_14 : decode cX1_make 14 = .ok (.iconst 0, 1) := by decide +kernel
theorem dX1_make_15 : decode cX1_make 15 = .ok (.putfield 50, 3) := by decide +kernel
theorem dX1_make_18 : decode cX1_make 18 = .ok (.iconst 1, 1) := by decide +kernel
theorem dX1_make_19 : decode cX1_make 19 = .ok (.istore_n 2, 1) := by decide +kernel
theorem dX1_make_20 : decode cX1_make 20 = .ok (.iload_n 2, 1) := by decide +kernel
theorem dX1_make_21 : decode cX1_make 21 = .ok (.bipush 8, 2) := by decide +kernel
theorem dX1_make_23 : decode cX1_make 23 = .ok (.if_icmp .gt 32, 3) := by decide +kernel
theorem dX1_make_26 : decode cX1_make 26 = .ok (.aload_n 0, 1) := by decide +kernel
theorem dX1_make_27 : decode cX1_make 27 = .ok (.getfield 50, 3) := by decide +kernel
theorem dX1_make_30 : decode cX1_make 30 = .ok (.ifCond .ne 25, 3) := by decide +kernel
theorem dX1_make_33 : decode cX1_make 33 = .ok (.iload_n 2, 1) := by decide +kernel
theorem dX1_make_34 : decode cX1_make 34 = .ok (.iconst 1, 1) := by decide +kernel
theorem dX1_make_35 : decode cX1_make 35 = .ok (.if_icmp .le 8, 3) := by decide +kernel
theorem dX1_make_38 : decode cX1_make 38 = .ok (.aload_n 0, 1) := by decide +kernel
theorem dX1_make_39 : decode cX1_make 39 = .ok (.aload_n 1, 1) := by decide +kernel
theorem dX1_make_40 : decode cX1_make 40 = .ok (.invokevirtual 53, 3) := by decide +kernel
theorem dX1_make_43 : decode cX1_make 43 = .ok (.aload_n 0, 1) := by decide +kernel
theorem dX1_make_44 : decode cX1_make 44 = .ok (.aload_n 1, 1) := by decide +kernel
theorem dX1_make_45 : decode cX1_make 45 = .ok (.iload_n 2, 1) := by decide +kernel
theorem dX1_make_46 : decode cX1_make 46 = .ok (.invokevirtual 56, 3) := by decide +kernel
theorem dX1_make_49 : decode cX1_make 49 = .ok (.iinc 2 1, 3) := by decide +kernel
theorem dX1_make_52 : decode cX1_make 52 = .ok (.goto (-32), 3) := by decide +kernel
theorem dX1_make_55 : decode cX1_make 55 = .ok (.aload_n 0, 1) := by decide +kernel
theorem dX1_make_56 : decode cX1_make 56 = .ok (.iconst 0, 1) := by decide +kernel
theorem dX1_make_57 : decode cX1_make 57 = .ok (.putfield 60, 3) := by decide +kernel
theorem dX1_make_60 : decode cX1_make 60 = .ok (.iconst 0, 1) := by decide +kernel
theorem dX1_make_61 : decode cX1_make 61 = .ok (.istore_n 2, 1) := by decide +kernel
theorem dX1_make_62 : decode cX1_make 62 = .ok (.iload_n 2, 1) := by decide +kernel
theorem dX1_make_63 : decode cX1_make 63 = .ok (.bipush 40, 2) := by decide +kernel
theorem dX1_make_65 : decode cX1_make 65 = .ok (.if_icmp .ge 32, 3) := by decide +kernel
theorem dX1_make_68 : decode cX1_make 68 = .ok (.aload_n 0, 1) := by decide +kernel
theorem dX1_make_69 : decode cX1_make 69 = .ok (.dup, 1) := by decide +kernel
theorem dX1_make_70 : decode cX1_make 70 = .ok (.getfield 60, 3) := by decide +kernel
theorem dX1_make_73 : decode cX1_make 73 = .ok (.aload_n 0, 1) := by decide +kernel
theorem dX1_make_74 : decode cX1_make 74 = .ok (.getfield 15, 3) := by decide +kernel
theorem dX1_make_77 : decode cX1_make 77 = .ok (.iload_n 2, 1) := by decide +kernel
theorem dX1_make_78 : decode cX1_make 78 = .ok (.baload, 1) := by decide +kernel
theorem dX1_make_79 : decode cX1_make 79 = .ok (.ifCond .eq 7, 3) := by decide +kernel
theorem dX1_make_82 : decode cX1_make 82 = .ok (.iconst 1, 1) := by decide +kernel
theorem dX1_make_83 : decode cX1_make 83 = .ok (.goto 4, 3) := by decide +kernel
theorem dX1_make_86 : decode cX1_make 86 = .ok (.iconst 0, 1) := by decide +kernel
theorem dX1_make_87 : decode cX1_make 87 = .ok (.iadd, 1) := by decide +kernel
theorem dX1_make_88 : decode cX1_make 88 = .ok (.putfield 60, 3) := by decide +kernel
theorem dX1_make_91 : decode cX1_make 91 = .ok (.iinc 2 1, 3) := by decide +kernel
theorem dX1_make_94 : decode cX1_make 94 = .ok (.goto (-32), 3) := by decide +kernel
theorem dX1_make_97 : decode cX1_make 97 = .ok (.aload_n 0, 1) := by decide +kernel
theorem dX1_make_98 : decode cX1_make 98 = .ok (.iconst 1, 1) := by decide +kernel
theorem dX1_make_99 : decode cX1_make 99 = .ok (.putfield 42, 3) := by decide +kernel
theorem dX1_make_102 : decode cX1_make 102 = .ok (.return_, 1) := by decide +kernel
theorem dX1_seeAllShown_0 : decode cX1_seeAllShown 0 = .ok (.aload_n 0, 1) := by decide +kernel
theorem dX1_seeAllShown_1 : decode cX1_seeAllShown 1 = .ok (.iconst 0, 1) := by decide +kernel
theorem dX1_seeAllShown_2 : decode cX1_seeAllShown 2 = .ok (.putfield 64, 3) := by decide +kernel
theorem dX1_seeAllShown_5 : decode cX1_seeAllShown 5 = .ok (.iconst 0, 1) := by decide +kernel
theorem dX1_seeAllShown_6 : decode cX1_seeAllShown 6 = .ok (.istore_n 2, 1) := by decide +kernel
theorem dX1_seeAllShown_7 : decode cX1_seeAllShown 7 = .ok (.iload_n 2, 1) := by decide +kernel
theorem dX1_seeAllShown_8 : decode cX1_seeAllShown 8 = .ok (.bipush 40, 2) := by decide +kernel
theorem dX1_seeAllShown_10 : decode cX1_seeAllShown 10 = .ok (.if_icmp .ge 71, 3) := by decide +kernel
theorem dX1_seeAllShown_13 : decode cX1_seeAllShown 13 = .ok (.aload_n 0, 1) := by decide +kernel
theorem dX1_seeAllShown_14 : decode cX1_seeAllShown 14 = .ok (.getfield 9, 3) := by decide +kernel
theorem dX1_seeAllShown_17 : decode cX1_seeAllShown 17 = .ok (.iload_n 2, 1) := by decide +kernel
theorem dX1_seeAllShown_18 : decode cX1_seeAllShown 18 = .ok (.iload_n 2, 1) := by decide +kernel
theorem dX1_seeAllShown_19 : decode cX1_seeAllShown 19 = .ok (.aload_n 1, 1) := by decide +kernel
theorem dX1_seeAllShown_20 : decode cX1_seeAllShown 20 = .ok (.getfield 67, 3) := by decide +kernel
theorem dX1_seeAllShown_23 : decode cX1_seeAllShown 23 = .ok (.if_icmp .ge 15, 3) := by decide +kernel
theorem dX1_seeAllShown_26 : decode cX1_seeAllShown 26 = .ok (.aload_n 1, 1) := by decide +kernel
theorem dX1_seeAllShown_27 : decode cX1_seeAllShown 27 = .ok (.iload_n 2, 1) := by decide +kernel
theorem dX1_seeAllShown_28 : decode cX1_seeAllShown 28 = .ok (.invokevirtual 72, 3) := by decide +kernel
theorem dX1_seeAllShown_31 : decode cX1_seeAllShown 31 = .ok (.ifCond .eq 7, 3) := by decide +kernel
theorem dX1_seeAllShown_34 : decode cX1_seeAllShown 34 = .ok (.iconst 1, 1) := by decide +kernel
theorem dX1_seeAllShown_35 : decode cX1_seeAllShown 35 = .ok (.goto 4, 3) := by decide +kernel
theorem dX1_seeAllShown_38 : decode cX1_seeAllShown 38 = .ok (.iconst 0, 1) := by decide +kernel
theorem dX1_seeAllShown_39 : decode cX1_seeAllShown 39 = .ok (.bastore, 1) := by decide +kernel
theorem dX1_seeAllShown_40 : decode cX1_seeAllShown 40 = .ok (.aload_n 0, 1) := by decide +kernel
theorem dX1_seeAllShown_41 : decode cX1_seeAllShown 41 = .ok (.getfield 15, 3) := by decide +kernel
theorem dX1_seeAllShown_44 : decode cX1_seeAllShown 44 = .ok (.iload_n 2, 1) := by decide +kernel
theorem dX1_seeAllShown_45 : decode cX1_seeAllShown 45 = .ok (.aload_n 0, 1) := by decide +kernel
theorem dX1_seeAllShown_46 : decode cX1_seeAllShown 46 = .ok (.getfield 9, 3) := by decide +kernel
theorem dX1_seeAllShown_49 : decode cX1_seeAllShown 49 = .ok (.iload_n 2, 1) := by decide +kernel
theorem dX1_seeAllShown_50 : decode cX1_seeAllShown 50 = .ok (.baload, 1) := by decide +kernel
theorem dX1_seeAllShown_51 : decode cX1_seeAllShown 51 = .ok (.bastore, 1) := by decide +kernel
theorem dX1_seeAllShown_52 : decode cX1_seeAllShown 52 = .ok (.aload_n 0, 1) := by decide +kernel
theorem dX1_seeAllShown_53 : decode cX1_seeAllShown 53 = .ok (.dup, 1) := by decide +kernel
theorem dX1_seeAllShown_54 : decode cX1_seeAllShown 54 = .ok (.getfield 64, 3) := by decide +kernel
theorem dX1_seeAllShown_57 : decode cX1_seeAllShown 57 = .ok (.aload_n 0, 1) := by decide +kernel
theorem dX1_seeAllShown_58 : decode cX1_seeAllShown 58 = .ok (.getfield 9, 3) := by decide +kernel
theorem dX1_seeAllShown_61 : decode cX1_seeAllShown 61 = .ok (.iload_n 2, 1) := by decide +kernel
theorem dX1_seeAllShown_62 : decode cX1_seeAllShown 62 = .ok (.baload, 1) := by decide +kernel
theorem dX1_seeAllShown_63 : decode cX1_seeAllShown 63 = .ok (.ifCond .eq 7, 3) := by decide +kernel
theorem dX1_seeAllShown_66 : decode cX1_seeAllShown 66 = .ok (.iconst 1, 1) := by decide +kernel
theorem dX1_seeAllShown_67 : decode cX1_seeAllShown 67 = .ok (.goto 4, 3) := by decide +kernel
theorem dX1_seeAllShown_70 : decode cX1_seeAllShown 70 = .ok (.iconst 0, 1) := by decide +kernel
theorem dX1_seeAllShown_71 : decode cX1_seeAllShown 71 = .ok (.iadd, 1) := by decide +kernel
theorem dX1_seeAllShown_72 : decode cX1_seeAllShown 72 = .ok (.putfield 64, 3) := by decide +kernel
theorem dX1_seeAllShown_75 : decode cX1_seeAllShown 75 = .ok (.iinc 2 1, 3) := by decide +kernel
theorem dX1_seeAllShown_78 : decode cX1_seeAllShown 78 = .ok (.goto (-71), 3) := by decide +kernel
theorem dX1_seeAllShown_81 : decode cX1_seeAllShown 81 = .ok (.return_, 1) := by decide +kernel
theorem dX1_hideCovered_0 : decode cX1_hideCovered 0 = .ok (.iconst 0, 1) := by decide +kernel
theorem dX1_hideCovered_1 : decode cX1_hideCovered 1 = .ok (.istore_n 2, 1) := by decide +kernel
theorem dX1_hideCovered_2 : decode cX1_hideCovered 2 = .ok (.iload_n 2, 1) := by decide +kernel
theorem dX1_hideCovered_3 : decode cX1_hideCovered 3 = .ok (.bipush 40, 2) := by decide +kernel
theorem dX1_hideCovered_5 : decode cX1_hideCovered 5 = .ok (.if_icmp .ge 41, 3) := by decide +kernel
theorem dX1_hideCovered_8 : decode cX1_hideCovered 8 = .ok (.aload_n 0, 1) := by decide +kernel
theorem dX1_hideCovered_9 : decode cX1_hideCovered 9 = .ok (.getfield 15, 3) := by decide +kernel
theorem dX1_hideCovered_12 : decode cX1_hideCovered 12 = .ok (.iload_n 2, 1) := by decide +kernel
theorem dX1_hideCovered_13 : decode cX1_hideCovered 13 = .ok (.aload_n 0, 1) := by decide +kernel
theorem dX1_hideCovered_14 : decode cX1_hideCovered 14 = .ok (.getfield 9, 3) := by decide +kernel
theorem dX1_hideCovered_17 : decode cX1_hideCovered 17 = .ok (.iload_n 2, 1) := by decide +kernel
theorem dX1_hideCovered_18 : decode cX1_hideCovered 18 = .ok (.baload, 1) := by decide +kernel
theorem dX1_hideCovered_19 : decode cX1_hideCovered 19 = .ok (.ifCond .eq 19, 3) := by decide +kernel
theorem dX1_hideCovered_22 : decode cX1_hideCovered 22 = .ok (.aload_n 0, 1) := by decide +kernel
theorem dX1_hideCovered_23 : decode cX1_hideCovered 23 = .ok (.getfield 38, 3) := by decide +kernel
theorem dX1_hideCovered_26 : decode cX1_hideCovered 26 = .ok (.aload_n 1, 1) := by decide +kernel
theorem dX1_hideCovered_27 : decode cX1_hideCovered 27 = .ok (.iload_n 2, 1) := by decide +kernel
theorem dX1_hideCovered_28 : decode cX1_hideCovered 28 = .ok (.invokevirtual 76, 3) := by decide +kernel
theorem dX1_hideCovered_31 : decode cX1_hideCovered 31 = .ok (.ifCond .ne 7, 3) := by decide +kernel
theorem dX1_hideCovered_34 : decode cX1_hideCovered 34 = .ok (.iconst 1, 1) := by decide +kernel
theorem dX1_hideCovered_35 : decode cX1_hideCovered 35 = .ok (.goto 4, 3) := by decide +kernel
theorem dX1_hideCovered_38 : decode cX1_hideCovered 38 = .ok (.iconst 0, 1) := by decide +kernel
theorem dX1_hideCovered_39 : decode cX1_hideCovered 39 = .ok (.bastore, 1) := by decide +kernel
theorem dX1_hideCovered_40 : decode cX1_hideCovered 40 = .ok (.iinc 2 1, 3) := by decide +kernel
theorem dX1_hideCovered_43 : decode cX1_hideCovered 43 = .ok (.goto (-41), 3) := by decide +kernel
theorem dX1_hideCovered_46 : decode cX1_hideCovered 46 = .ok (.return_, 1) := by decide +kernel
theorem dX1_makeRound_0 : decode cX1_makeRound 0 = .ok (.aload_n 0, 1) := by decide +kernel
theorem dX1_makeRound_1 : decode cX1_makeRound 1 = .ok (.getfield 32, 3) := by decide +kernel
theorem dX1_makeRound_4 : decode cX1_makeRound 4 = .ok (.aload_n 0, 1) := by decide +kernel
theorem dX1_makeRound_5 : decode cX1_makeRound 5 = .ok (.getfield 28, 3) := by decide +kernel
theorem dX1_makeRound_8 : decode cX1_makeRound 8 = .ok (.invokevirtual 80, 3) := by decide +kernel
theorem dX1_makeRound_11 : decode cX1_makeRound 11 = .ok (.aload_n 0, 1) := by decide +kernel
theorem dX1_makeRound_12 : decode cX1_makeRound 12 = .ok (.getfield 21, 3) := by decide +kernel
theorem dX1_makeRound_15 : decode cX1_makeRound 15 = .ok (.aload_n 1, 1) := by decide +kernel
theorem dX1_makeRound_16 : decode cX1_makeRound 16 = .ok (.aload_n 0, 1) := by decide +kernel
theorem dX1_makeRound_17 : decode cX1_makeRound 17 = .ok (.getfield 15, 3) := by decide +kernel
theorem dX1_makeRound_20 : decode cX1_makeRound 20 = .ok (.invokevirtual 84, 3) := by decide +kernel
theorem dX1_makeRound_23 : decode cX1_makeRound 23 = .ok (.aload_n 0, 1) := by decide +kernel
theorem dX1_makeRound_24 : decode cX1_makeRound 24 = .ok (.getfield 28, 3) := by decide +kernel
theorem dX1_makeRound_27 : decode cX1_makeRound 27 = .ok (.aload_n 1, 1) := by decide +kernel
theorem dX1_makeRound_28 : decode cX1_makeRound 28 = .ok (.aload_n 0, 1) := by decide +kernel
theorem dX1_makeRound_29 : decode cX1_makeRound 29 = .ok (.getfield 21, 3) := by decide +kernel
theorem dX1_makeRound_32 : decode cX1_makeRound 32 = .ok (.invokevirtual 88, 3) := by decide +kernel
theorem dX1_makeRound_35 : decode cX1_makeRound 35 = .ok (.aload_n 0, 1) := by decide +kernel
theorem dX1_makeRound_36 : decode cX1_makeRound 36 = .ok (.getfield 28, 3) := by decide +kernel
theorem dX1_makeRound_39 : decode cX1_makeRound 39 = .ok (.aload_n 1, 1) := by decide +kernel
theorem dX1_makeRound_40 : decode cX1_makeRound 40 = .ok (.getfield 92, 3) := by decide +kernel
theorem dX1_makeRound_43 : decode cX1_makeRound 43 = .ok (.iconst 1, 1) := by decide +kernel
theorem dX1_makeRound_44 : decode cX1_makeRound 44 = .ok (.iaload, 1) := by decide +kernel
theorem dX1_makeRound_45 : decode cX1_makeRound 45 = .ok (.invokevirtual 96, 3) := by decide +kernel
theorem dX1_makeRound_48 : decode cX1_makeRound 48 = .ok (.aload_n 0, 1) := by decide +kernel
theorem dX1_makeRound_49 : decode cX1_makeRound 49 = .ok (.getfield 38, 3) := by decide +kernel
theorem dX1_makeRound_52 : decode cX1_makeRound 52 = .ok (.aload_n 1, 1) := by decide +kernel
theorem dX1_makeRound_53 : decode cX1_makeRound 53 = .ok (.aload_n 0, 1) := by decide +kernel
theorem dX1_makeRound_54 : decode cX1_makeRound 54 = .ok (.getfield 28, 3) := by decide +kernel
theorem dX1_makeRound_57 : decode cX1_makeRound 57 = .ok (.aload_n 0, 1) := by decide +kernel
theorem dX1_makeRound_58 : decode cX1_makeRound 58 = .ok (.getfield 9, 3) := by decide +kernel
theorem dX1_makeRound_61 : decode cX1_makeRound 61 = .ok (.invokevirtual 100, 3) := by decide +kernel
theorem dX1_makeRound_64 : decode cX1_makeRound 64 = .ok (.aload_n 0, 1) := by decide +kernel
theorem dX1_makeRound_65 : decode cX1_makeRound 65 = .ok (.iload_n 2, 1) := by decide +kernel
theorem dX1_makeRound_66 : decode cX1_makeRound 66 = .ok (.putfield 104, 3) := by decide +kernel
theorem dX1_makeRound_69 : decode cX1_makeRound 69 = .ok (.iload_n 2, 1) := by decide +kernel
theorem dX1_makeRound_70 : decode cX1_makeRound 70 = .ok (.iconst 1, 1) := by decide +kernel
theorem dX1_makeRound_71 : decode cX1_makeRound 71 = .ok (.if_icmp .ne 17, 3) := by decide +kernel
theorem dX1_makeRound_74 : decode cX1_makeRound 74 = .ok (.aload_n 0, 1) := by decide +kernel
theorem dX1_makeRound_75 : decode cX1_makeRound 75 = .ok (.aload_n 0, 1) := by decide +kernel
theorem dX1_makeRound_76 : decode cX1_makeRound 76 = .ok (.getfield 28, 3) := by decide +kernel
theorem dX1_makeRound_79 : decode cX1_makeRound 79 = .ok (.getfield 107, 3) := by decide +kernel
theorem dX1_makeRound_82 : decode cX1_makeRound 82 = .ok (.putfield 110, 3) := by decide +kernel
theorem dX1_makeRound_85 : decode cX1_makeRound 85 = .ok (.goto 18, 3) := by decide +kernel
theorem dX1_makeRound_88 : decode cX1_makeRound 88 = .ok (.aload_n 0, 1) := by decide +kernel
theorem dX1_makeRound_89 : decode cX1_makeRound 89 = .ok (.aload_n 0, 1) := by decide +kernel
theorem dX1_makeRound_90 : decode cX1_makeRound 90 = .ok (.getfield 28, 3) := by decide +kernel
theorem dX1_makeRound_93 : decode cX1_makeRound 93 = .ok (.aload_n 0, 1) := by decide +kernel
theorem dX1_makeRound_94 : decode cX1_makeRound 94 = .ok (.getfield 32, 3) := by decide +kernel
theorem dX1_makeRound_97 : decode cX1_makeRound 97 = .ok (.invokevirtual 113, 3) := by decide +kernel
theorem dX1_makeRound_100 : decode cX1_makeRound 100 = .ok (.putfield 50, 3) := by decide +kernel
theorem dX1_makeRound_103 : decode cX1_makeRound 103 = .ok (.return_, 1) := by decide +kernel
theorem dX1_countCoveredInSight_0 : decode cX1_countCoveredInSight 0 = .ok (.aload_n 0, 1) := by decide +kernel
theorem dX1_countCoveredInSight_1 : decode cX1_countCoveredInSight 1 = .ok (.getfield 38, 3) := by decide +kernel
theorem dX1_countCoveredInSight_4 : decode cX1_countCoveredInSight 4 = .ok (.aload_n 1, 1) := by decide +kernel
theorem dX1_countCoveredInSight_5 : decode cX1_countCoveredInSight 5 = .ok (.aload_n 0, 1) := by decide +kernel
theorem dX1_countCoveredInSight_6 : decode cX1_countCoveredInSight 6 = .ok (.getfield 15, 3) := by decide +kernel
theorem dX1_countCoveredInSight_9 : decode cX1_countCoveredInSight 9 = .ok (.invokevirtual 117, 3) := by decide +kernel
theorem dX1_countCoveredInSight_12 : decode cX1_countCoveredInSight 12 = .ok (.ireturn, 1) := by decide +kernel
theorem dX1_lineOf_0 : decode cX1_lineOf 0 = .ok (.aload_n 0, 1) := by decide +kernel
theorem dX1_lineOf_1 : decode cX1_lineOf 1 = .ok (.getfield 15, 3) := by decide +kernel
theorem dX1_lineOf_4 : decode cX1_lineOf 4 = .ok (.iload_n 2, 1) := by decide +kernel
theorem dX1_lineOf_5 : decode cX1_lineOf 5 = .ok (.baload, 1) := by decide +kernel
theorem dX1_lineOf_6 : decode cX1_lineOf 6 = .ok (.ifCond .ne 5, 3) := by decide +kernel
theorem dX1_lineOf_9 : decode cX1_lineOf 9 = .ok (.iconst (-1), 1) := by decide +kernel
theorem dX1_lineOf_10 : decode cX1_lineOf 10 = .ok (.ireturn, 1) := by decide +kernel
theorem dX1_lineOf_11 : decode cX1_lineOf 11 = .ok (.aload_n 1, 1) := by decide +kernel
theorem dX1_lineOf_12 : decode cX1_lineOf 12 = .ok (.getfield 121, 3) := by decide +kernel
theorem dX1_lineOf_15 : decode cX1_lineOf 15 = .ok (.iload_n 2, 1) := by decide +kernel
theorem dX1_lineOf_16 : decode cX1_lineOf 16 = .ok (.iaload, 1) := by decide +kernel
theorem dX1_lineOf_17 : decode cX1_lineOf 17 = .ok (.istore_n 3, 1) := by decide +kernel
theorem dX1_lineOf_18 : decode cX1_lineOf 18 = .ok (.aload_n 1, 1) := by decide +kernel
theorem dX1_lineOf_19 : decode cX1_lineOf 19 = .ok (.iload_n 2, 1) := by decide +kernel
theorem dX1_lineOf_20 : decode cX1_lineOf 20 = .ok (.invokevirtual 124, 3) := by decide +kernel
theorem dX1_lineOf_23 : decode cX1_lineOf 23 = .ok (.istore 4, 2) := by decide +kernel
theorem dX1_lineOf_25 : decode cX1_lineOf 25 = .ok (.iconst 0, 1) := by decide +kernel
theorem dX1_lineOf_26 : decode cX1_lineOf 26 = .ok (.istore 5, 2) := by decide +kernel
theorem dX1_lineOf_28 : decode cX1_lineOf 28 = .ok (.iload 5, 2) := by decide +kernel
theorem dX1_lineOf_30 : decode cX1_lineOf 30 = .ok (.aload_n 0, 1) := by decide +kernel
theorem dX1_lineOf_31 : decode cX1_lineOf 31 = .ok (.getfield 28, 3) := by decide +kernel
theorem dX1_lineOf_34 : decode cX1_lineOf 34 = .ok (.getfield 107, 3) := by decide +kernel
theorem dX1_lineOf_37 : decode cX1_lineOf 37 = .ok (.if_icmp .ge 92, 3) := by decide +kernel
theorem dX1_lineOf_40 : decode cX1_lineOf 40 = .ok (.aload_n 0, 1) := by decide +kernel
theorem dX1_lineOf_41 : decode cX1_lineOf 41 = .ok (.getfield 28, 3) := by decide +kernel
theorem dX1_lineOf_44 : decode cX1_lineOf 44 = .ok (.getfield 128, 3) := by decide +kernel
theorem dX1_lineOf_47 : decode cX1_lineOf 47 = .ok (.iload 5, 2) := by decide +kernel
theorem dX1_lineOf_49 : decode cX1_lineOf 49 = .ok (.iaload, 1) := by decide +kernel
theorem dX1_lineOf_50 : decode cX1_lineOf 50 = .ok (.iconst 2, 1) := by decide +kernel
theorem dX1_lineOf_51 : decode cX1_lineOf 51 = .ok (.if_icmp .ne 25, 3) := by decide +kernel
theorem dX1_lineOf_54 : decode cX1_lineOf 54 = .ok (.aload_n 0, 1) := by decide +kernel
theorem dX1_lineOf_55 : decode cX1_lineOf 55 = .ok (.getfield 28, 3) := by decide +kernel
theorem dX1_lineOf_58 : decode cX1_lineOf 58 = .ok (.getfield 131, 3) := by decide +kernel
theorem dX1_lineOf_61 : decode cX1_lineOf 61 = .ok (.iload 5, 2) := by decide +kernel
theorem dX1_lineOf_63 : decode cX1_lineOf 63 = .ok (.iaload, 1) := by decide +kernel
theorem dX1_lineOf_64 : decode cX1_lineOf 64 = .ok (.aload_n 1, 1) := by decide +kernel
theorem dX1_lineOf_65 : decode cX1_lineOf 65 = .ok (.getfield 134, 3) := by decide +kernel
theorem dX1_lineOf_68 : decode cX1_lineOf 68 = .ok (.iload_n 3, 1) := by decide +kernel
theorem dX1_lineOf_69 : decode cX1_lineOf 69 = .ok (.iaload, 1) := by decide +kernel
theorem dX1_lineOf_70 : decode cX1_lineOf 70 = .ok (.if_icmp .ne 6, 3) := by decide +kernel
theorem dX1_lineOf_73 : decode cX1_lineOf 73 = .ok (.iload 5, 2) := by decide +kernel
theorem dX1_lineOf_75 : decode cX1_lineOf 75 = .ok (.ireturn, 1) := by decide +kernel
theorem dX1_lineOf_76 : decode cX1_lineOf 76 = .ok (.aload_n 0, 1) := by decide +kernel
theorem dX1_lineOf_77 : decode cX1_lineOf 77 = .ok (.getfield 28, 3) := by decide +kernel
theorem dX1_lineOf_80 : decode cX1_lineOf 80 = .ok (.getfield 135, 3) := by decide +kernel
theorem dX1_lineOf_83 : decode cX1_lineOf 83 = .ok (.iload 5, 2) := by decide +kernel
theorem dX1_lineOf_85 : decode cX1_lineOf 85 = .ok (.iaload, 1) := by decide +kernel
theorem dX1_lineOf_86 : decode cX1_lineOf 86 = .ok (.iload_n 3, 1) := by decide +kernel
theorem dX1_lineOf_87 : decode cX1_lineOf 87 = .ok (.if_icmp .ne 36, 3) := by decide +kernel
theorem dX1_lineOf_90 : decode cX1_lineOf 90 = .ok (.aload_n 0, 1) := by decide +kernel
theorem dX1_lineOf_91 : decode cX1_lineOf 91 = .ok (.getfield 28, 3) := by decide +kernel
theorem dX1_lineOf_94 : decode cX1_lineOf 94 = .ok (.getfield 138, 3) := by decide +kernel
theorem dX1_lineOf_97 : decode cX1_lineOf 97 = .ok (.iload 5, 2) := by decide +kernel
theorem dX1_lineOf_99 : decode cX1_lineOf 99 = .ok (.iaload, 1) := by decide +kernel
theorem dX1_lineOf_100 : decode cX1_lineOf 100 = .ok (.iload 4, 2) := by decide +kernel
theorem dX1_lineOf_102 : decode cX1_lineOf 102 = .ok (.if_icmp .gt 21, 3) := by decide +kernel
theorem dX1_lineOf_105 : decode cX1_lineOf 105 = .ok (.iload 4, 2) := by decide +kernel
theorem dX1_lineOf_107 : decode cX1_lineOf 107 = .ok (.aload_n 0, 1) := by decide +kernel
theorem dX1_lineOf_108 : decode cX1_lineOf 108 = .ok (.getfield 28, 3) := by decide +kernel
theorem dX1_lineOf_111 : decode cX1_lineOf 111 = .ok (.getfield 141, 3) := by decide +kernel
theorem dX1_lineOf_114 : decode cX1_lineOf 114 = .ok (.iload 5, 2) := by decide +kernel
theorem dX1_lineOf_116 : decode cX1_lineOf 116 = .ok (.iaload, 1) := by decide +kernel
theorem dX1_lineOf_117 : decode cX1_lineOf 117 = .ok (.if_icmp .gt 6, 3) := by decide +kernel
theorem dX1_lineOf_120 : decode cX1_lineOf 120 = .ok (.iload 5, 2) := by decide +kernel
theorem dX1_lineOf_122 : decode cX1_lineOf 122 = .ok (.ireturn, 1) := by decide +kernel
theorem dX1_lineOf_123 : decode cX1_lineOf 123 = .ok (.iinc 5 1, 3) := by decide +kernel
theorem dX1_lineOf_126 : decode cX1_lineOf 126 = .ok (.goto (-98), 3) := by decide +kernel
theorem dX1_lineOf_129 : decode cX1_lineOf 129 = .ok (.iconst (-1), 1) := by decide +kernel
theorem dX1_lineOf_130 : decode cX1_lineOf 130 = .ok (.ireturn, 1) := by decide +kernel
theorem dX2_init_0 : decode cX2_init 0 = .ok (.aload_n 0, 1) := by decide +kernel
theorem dX2_init_1 : decode cX2_init 1 = .ok (.invokespecial 3, 3) := by decide +kernel
theorem dX2_init_4 : decode cX2_init 4 = .ok (.aload_n 0, 1) := by decide +kernel
theorem dX2_init_5 : decode cX2_init 5 = .ok (.bipush 77, 2) := by decide +kernel
theorem dX2_init_7 : decode cX2_init 7 = .ok (.newarray .int, 2) := by decide +kernel
theorem dX2_init_9 : decode cX2_init 9 = .ok (.putfield 9, 3) := by decide +kernel
theorem dX2_init_12 : decode cX2_init 12 = .ok (.aload_n 0, 1) := by decide +kernel
theorem dX2_init_13 : decode cX2_init 13 = .ok (.bipush 77, 2) := by decide +kernel
theorem dX2_init_15 : decode cX2_init 15 = .ok (.newarray .int, 2) := by decide +kernel
theorem dX2_init_17 : decode cX2_init 17 = .ok (.putfield 15, 3) := by decide +kernel
theorem dX2_init_20 : decode cX2_init 20 = .ok (.aload_n 0, 1) := by decide +kernel
theorem dX2_init_21 : decode cX2_init 21 = .ok (.bipush 77, 2) := by decide +kernel
theorem dX2_init_23 : decode cX2_init 23 = .ok (.newarray .int, 2) := by decide +kernel
theorem dX2_init_25 : decode cX2_init 25 = .ok (.putfield 18, 3) := by decide +kernel
theorem dX2_init_28 : decode cX2_init 28 = .ok (.aload_n 0, 1) := by decide +kernel
theorem dX2_init_29 : decode cX2_init 29 = .ok (.bipush 77, 2) := by decide +kernel
theorem dX2_init_31 : decode cX2_init 31 = .ok (.newarray .int, 2) := by decide +kernel
theorem dX2_init_33 : decode cX2_init 33 = .ok (.putfield 21, 3) := by decide +kernel
theorem dX2_init_36 : decode cX2_init 36 = .ok (.aload_n 0, 1) := by decide +kernel
theorem dX2_init_37 : decode cX2_init 37 = .ok (.bipush 77, 2) := by decide +kernel
theorem dX2_init_39 : decode cX2_init 39 = .ok (.newarray .int, 2) := by decide +kernel
theorem dX2_init_41 : decode cX2_init 41 = .ok (.putfield 24, 3) := by decide +kernel
theorem dX2_init_44 : decode cX2_init 44 = .ok (.aload_n 0, 1) := by decide +kernel
theorem dX2_init_45 : decode cX2_init 45 = .ok (.bipush 77, 2) := by decide +kernel
theorem dX2_init_47 : decode cX2_init 47 = .ok (.newarray .int, 2) := by decide +kernel
theorem dX2_init_49 : decode cX2_init 49 = .ok (.putfield 27, 3) := by decide +kernel
theorem dX2_init_52 : decode cX2_init 52 = .ok (.aload_n 0, 1) := by decide +kernel
theorem dX2_init_53 : decode cX2_init 53 = .ok (.bipush 77, 2) := by decide +kernel
theorem dX2_init_55 : decode cX2_init 55 = .ok (.newarray .int, 2) := by decide +kernel
theorem dX2_init_57 : decode cX2_init 57 = .ok (.putfield 30, 3) := by decide +kernel
theorem dX2_init_60 : decode cX2_init 60 = .ok (.aload_n 0, 1) := by decide +kernel
theorem dX2_init_61 : decode cX2_init 61 = .ok (.bipush 77, 2) := by decide +kernel
theorem dX2_init_63 : decode cX2_init 63 = .ok (.newarray .int, 2) := by decide +kernel
theorem dX2_init_65 : decode cX2_init 65 = .ok (.putfield 33, 3) := by decide +kernel
theorem dX2_init_68 : decode cX2_init 68 = .ok (.aload_n 0, 1) := by decide +kernel
theorem dX2_init_69 : decode cX2_init 69 = .ok (.bipush 12, 2) := by decide +kernel
theorem dX2_init_71 : decode cX2_init 71 = .ok (.newarray .int, 2) := by decide +kernel
theorem dX2_init_73 : decode cX2_init 73 = .ok (.putfield 36, 3) := by decide +kernel
theorem dX2_init_76 : decode cX2_init 76 = .ok (.aload_n 0, 1) := by decide +kernel
theorem dX2_init_77 : decode cX2_init 77 = .ok (.iconst 5, 1) := by decide +kernel
theorem dX2_init_78 : decode cX2_init 78 = .ok (.newarray .boolean, 2) := by decide +kernel
theorem dX2_init_80 : decode cX2_init 80 = .ok (.putfield 39, 3) := by decide +kernel
theorem dX2_init_83 : decode cX2_init 83 = .ok (.return_, 1) := by decide +kernel
theorem dX2_copyFrom_0 : decode cX2_copyFrom 0 = .ok (.aload_n 0, 1) := by decide +kernel
theorem dX2_copyFrom_1 : decode cX2_copyFrom 1 = .ok (.aload_n 1, 1) := by decide +kernel
theorem dX2_copyFrom_2 : decode cX2_copyFrom 2 = .ok (.getfield 43, 3) := by decide +kernel
theorem dX2_copyFrom_5 : decode cX2_copyFrom 5 = .ok (.putfield 43, 3) := by decide +kernel
theorem dX2_copyFrom_8 : decode cX2_copyFrom 8 = .ok (.iconst 0, 1) := by decide +kernel
theorem dX2_copyFrom_9 : decode cX2_copyFrom 9 = .ok (.istore_n 2, 1) := by decide +kernel
theorem dX2_copyFrom_10 : decode cX2_copyFrom 10 = .ok (.iload_n 2, 1) := by decide +kernel
theorem dX2_copyFrom_11 : decode cX2_copyFrom 11 = .ok (.aload_n 0, 1) := by decide +kernel
theorem dX2_copyFrom_12 : decode cX2_copyFrom 12 = .ok (.getfield 43, 3) := by decide +kernel
theorem dX2_copyFrom_15 : decode cX2_copyFrom 15 = .ok (.if_icmp .ge 69, 3) := by decide +kernel
theorem dX2_copyFrom_18 : decode cX2_copyFrom 18 = .ok (.aload_n 0, 1) := by decide +kernel
theorem dX2_copyFrom_19 : decode cX2_copyFrom 19 = .ok (.getfield 9, 3) := by decide +kernel
theorem dX2_copyFrom_22 : decode cX2_copyFrom 22 = .ok (.iload_n 2, 1) := by decide +kernel
theorem dX2_copyFrom_23 : decode cX2_copyFrom 23 = .ok (.aload_n 1, 1) := by decide +kernel
theorem dX2_copyFrom_24 : decode cX2_copyFrom 24 = .ok (.getfield 9, 3) := by decide +kernel
theorem dX2_copyFrom_27 : decode cX2_copyFrom 27 = .ok (.iload_n 2, 1) := by decide +kernel
theorem dX2_copyFrom_28 : decode cX2_copyFrom 28 = .ok (.iaload, 1) := by decide +kernel
theorem dX2_copyFrom_29 : decode cX2_copyFrom 29 = .ok (.iastore, 1) := by decide +kernel
theorem dX2_copyFrom_30 : decode cX2_copyFrom 30 = .ok (.aload_n 0, 1) := by decide +kernel
theorem dX2_copyFrom_31 : decode cX2_copyFrom 31 = .ok (.getfield 15, 3) := by decide +kernel
theorem dX2_copyFrom_34 : decode cX2_copyFrom 34 = .ok (.iload_n 2, 1) := by decide +kernel
theorem dX2_copyFrom_35 : decode cX2_copyFrom 35 = .ok (.aload_n 1, 1) := by decide +kernel
theorem dX2_copyFrom_36 : decode cX2_copyFrom 36 = .ok (.getfield 15, 3) := by decide +kernel
theorem dX2_copyFrom_39 : decode cX2_copyFrom 39 = .ok (.iload_n 2, 1) := by decide +kernel
theorem dX2_copyFrom_40 : decode cX2_copyFrom 40 = .ok (.iaload, 1) := by decide +kernel
theorem dX2_copyFrom_41 : decode cX2_copyFrom 41 = .ok (.iastore, 1) := by decide +kernel
theorem dX2_copyFrom_42 : decode cX2_copyFrom 42 = .ok (.aload_n 0, 1) := by decide +kernel
theorem dX2_copyFrom_43 : decode cX2_copyFrom 43 = .ok (.getfield 18, 3) := by decide +kernel
theorem dX2_copyFrom_46 : decode cX2_copyFrom 46 = .ok (.iload_n 2, 1) := by decide +kernel
theorem dX2_copyFrom_47 : decode cX2_copyFrom 47 = .ok (.aload_n 1, 1) := by decide +kernel
theorem dX2_copyFrom_48 : decode cX2_copyFrom 48 = .ok (.getfield 18, 3) := by decide +kernel
theorem dX2_copyFrom_51 : decode cX2_copyFrom 51 = .ok (.iload_n 2, 1) := by decide +kernel
theorem dX2_copyFrom_52 : decode cX2_copyFrom 52 = .ok (.iaload, 1) := by decide +kernel
theorem dX2_copyFrom_53 : decode cX2_copyFrom 53 = .ok (.iastore, 1) := by decide +kernel
theorem dX2_copyFrom_54 : decode cX2_copyFrom 54 = .ok (.aload_n 0, 1) := by decide +kernel
theorem dX2_copyFrom_55 : decode cX2_copyFrom 55 = .ok (.getfield 21, 3) := by decide +kernel
theorem dX2_copyFrom_58 : decode cX2_copyFrom 58 = .ok (.iload_n 2, 1) := by decide +kernel
theorem dX2_copyFrom_59 : decode cX2_copyFrom 59 = .ok (.aload_n 1, 1) := by decide +kernel
theorem dX2_copyFrom_60 : decode cX2_copyFrom 60 = .ok (.getfield 21, 3) := by decide +kernel
theorem dX2_copyFrom_63 : decode cX2_copyFrom 63 = .ok (.iload_n 2, 1) := by decide +kernel
theorem dX2_copyFrom_64 : decode cX2_copyFrom 64 = .ok (.iaload, 1) := by decide +kernel
theorem dX2_copyFrom_65 : decode cX2_copyFrom 65 = .ok (.iastore, 1) := by decide +kernel
theorem dX2_copyFrom_66 : decode cX2_copyFrom 66 = .ok (.aload_n 0, 1) := by decide +kernel
theorem dX2_copyFrom_67 : decode cX2_copyFrom 67 = .ok (.getfield 24, 3) := by decide +kernel
theorem dX2_copyFrom_70 : decode cX2_copyFrom 70 = .ok (.iload_n 2, 1) := by decide +kernel
theorem dX2_copyFrom_71 : decode cX2_copyFrom 71 = .ok (.aload_n 1, 1) := by decide +kernel
theorem dX2_copyFrom_72 : decode cX2_copyFrom 72 = .ok (.getfield 24, 3) := by decide +kernel
theorem dX2_copyFrom_75 : decode cX2_copyFrom 75 = .ok (.iload_n 2, 1) := by decide +kernel
theorem dX2_copyFrom_76 : decode cX2_copyFrom 76 = .ok (.iaload, 1) := by decide +kernel
theorem dX2_copyFrom_77 : decode cX2_copyFrom 77 = .ok (.iastore, 1) := by decide +kernel
theorem dX2_copyFrom_78 : decode cX2_copyFrom 78 = .ok (.iinc 2 1, 3) := by decide +kernel
theorem dX2_copyFrom_81 : decode cX2_copyFrom 81 = .ok (.goto (-71), 3) := by decide +kernel
theorem dX2_copyFrom_84 : decode cX2_copyFrom 84 = .ok (.return_, 1) := by decide +kernel
theorem dX2_isSameAs_0 : decode cX2_isSameAs 0 = .ok (.aload_n 0, 1) := by decide +kernel
theorem dX2_isSameAs_1 : decode cX2_isSameAs 1 = .ok (.getfield 43, 3) := by decide +kernel
theorem dX2_isSameAs_4 : decode cX2_isSameAs 4 = .ok (.aload_n 1, 1) := by decide +kernel
theorem dX2_isSameAs_5 : decode cX2_isSameAs 5 = .ok (.getfield 43, 3) := by decide +kernel
theorem dX2_isSameAs_8 : decode cX2_isSameAs 8 = .ok (.if_icmp .eq 5, 3) := by decide +kernel
theorem dX2_isSameAs_11 : decode cX2_isSameAs 11 = .ok (.iconst 0, 1) := by decide +kernel
theorem dX2_isSameAs_12 : decode cX2_isSameAs 12 = .ok (.ireturn, 1) := by decide +kernel
theorem dX2_isSameAs_13 : decode cX2_isSameAs 13 = .ok (.iconst 0, 1) := by decide +kernel
theorem dX2_isSameAs_14 : decode cX2_isSameAs 14 = .ok (.istore_n 2, 1) := by decide +kernel
theorem dX2_isSameAs_15 : decode cX2_isSameAs 15 = .ok (.iload_n 2, 1) := by decide +kernel
theorem dX2_isSameAs_16 : decode cX2_isSameAs 16 = .ok (.aload_n 0, 1) := by decide +kernel
theorem dX2_isSameAs_17 : decode cX2_isSameAs 17 = .ok (.getfield 43, 3) := by decide +kernel
theorem dX2_isSameAs_20 : decode cX2_isSameAs 20 = .ok (.if_icmp .ge 86, 3) := by decide +kernel
theorem dX2_isSameAs_23 : decode cX2_isSameAs 23 = .ok (.aload_n 0, 1) := by decide +kernel
theorem dX2_isSameAs_24 : decode cX2_isSameAs 24 = .ok (.getfield 9, 3) := by decide +kernel
theorem dX2_isSameAs_27 : decode cX2_isSameAs 27 = .ok (.iload_n 2, 1) := by decide +kernel
theorem dX2_isSameAs_28 : decode cX2_isSameAs 28 = .ok (.iaload, 1) := by decide +kernel
theorem dX2_isSameAs_29 : decode cX2_isSameAs 29 = .ok (.aload_n 1, 1) := by decide +kernel
theorem dX2_isSameAs_30 : decode cX2_isSameAs 30 = .ok (.getfield 9, 3) := by decide +kernel
theorem dX2_isSameAs_33 : decode cX2_isSameAs 33 = .ok (.iload_n 2, 1) := by decide +kernel
theorem dX2_isSameAs_34 : decode cX2_isSameAs 34 = .ok (.iaload, 1) := by decide +kernel
theorem dX2_isSameAs_35 : decode cX2_isSameAs 35 = .ok (.if_icmp .ne 63, 3) := by decide +kernel
theorem dX2_isSameAs_38 : decode cX2_isSameAs 38 = .ok (.aload_n 0, 1) := by decide +kernel
theorem dX2_isSameAs_39 : decode cX2_isSameAs 39 = .ok (.getfield 15, 3) := by decide +kernel
theorem dX2_isSameAs_42 : decode cX2_isSameAs 42 = .ok (.iload_n 2, 1) := by decide +kernel
theorem dX2_isSameAs_43 : decode cX2_isSameAs 43 = .ok (.iaload, 1) := by decide +kernel
theorem dX2_isSameAs_44 : decode cX2_isSameAs 44 = .ok (.aload_n 1, 1) := by decide +kernel
theorem dX2_isSameAs_45 : decode cX2_isSameAs 45 = .ok (.getfield 15, 3) := by decide +kernel
theorem dX2_isSameAs_48 : decode cX2_isSameAs 48 = .ok (.iload_n 2, 1) := by decide +kernel
theorem dX2_isSameAs_49 : decode cX2_isSameAs 49 = .ok (.iaload, 1) := by decide +kernel
theorem dX2_isSameAs_50 : decode cX2_isSameAs 50 = .ok (.if_icmp .ne 48, 3) := by decide +kernel
theorem dX2_isSameAs_53 : decode cX2_isSameAs 53 = .ok (.aload_n 0, 1) := by decide +kernel
theorem dX2_isSameAs_54 : decode cX2_isSameAs 54 = .ok (.getfield 18, 3) := by decide +kernel
theorem dX2_isSameAs_57 : decode cX2_isSameAs 57 = .ok (.iload_n 2, 1) := by decide +kernel
theorem dX2_isSameAs_58 : decode cX2_isSameAs 58 = .ok (.iaload, 1) := by decide +kernel
theorem dX2_isSameAs_59 : decode cX2_isSameAs 59 = .ok (.aload_n 1, 1) := by decide +kernel
theorem dX2_isSameAs_60 : decode cX2_isSameAs 60 = .ok (.getfield 18, 3) := by decide +kernel
theorem dX2_isSameAs_63 : decode cX2_isSameAs 63 = .ok (.iload_n 2, 1) := by decide +kernel
theorem dX2_isSameAs_64 : decode cX2_isSameAs 64 = .ok (.iaload, 1) := by decide +kernel
theorem dX2_isSameAs_65 : decode cX2_isSameAs 65 = .ok (.if_icmp .ne 33, 3) := by decide +kernel
theorem dX2_isSameAs_68 : decode cX2_isSameAs 68 = .ok (.aload_n 0, 1) := by decide +kernel
theorem dX2_isSameAs_69 : decode cX2_isSameAs 69 = .ok (.getfield 21, 3) := by decide +kernel
theorem dX2_isSameAs_72 : decode cX2_isSameAs 72 = .ok (.iload_n 2, 1) := by decide +kernel
theorem dX2_isSameAs_73 : decode cX2_isSameAs 73 = .ok (.iaload, 1) := by decide +kernel
theorem dX2_isSameAs_74 : decode cX2_isSameAs 74 = .ok (.aload_n 1, 1) := by decide +kernel
theorem dX2_isSameAs_75 : decode cX2_isSameAs 75 = .ok (.getfield 21, 3) := by decide +kernel
theorem dX2_isSameAs_78 : decode cX2_isSameAs 78 = .ok (.iload_n 2, 1) := by decide +kernel
theorem dX2_isSameAs_79 : decode cX2_isSameAs 79 = .ok (.iaload, 1) := by decide +kernel
theorem dX2_isSameAs_80 : decode cX2_isSameAs 80 = .ok (.if_icmp .ne 18, 3) := by decide +kernel
theorem dX2_isSameAs_83 : decode cX2_isSameAs 83 = .ok (.aload_n 0, 1) := by decide +kernel
theorem dX2_isSameAs_84 : decode cX2_isSameAs 84 = .ok (.getfield 24, 3) := by decide +kernel
theorem dX2_isSameAs_87 : decode cX2_isSameAs 87 = .ok (.iload_n 2, 1) := by decide +kernel
theorem dX2_isSameAs_88 : decode cX2_isSameAs 88 = .ok (.iaload, 1) := by decide +kernel
theorem dX2_isSameAs_89 : decode cX2_isSameAs 89 = .ok (.aload_n 1, 1) := by decide +kernel
theorem dX2_isSameAs_90 : decode cX2_isSameAs 90 = .ok (.getfield 24, 3) := by decide +kernel
theorem dX2_isSameAs_93 : decode cX2_isSameAs 93 = .ok (.iload_n 2, 1) := by decide +kernel
theorem dX2_isSameAs_94 : decode cX2_isSameAs 94 = .ok (.iaload, 1) := by decide +kernel
theorem dX2_isSameAs_95 : decode cX2_isSameAs 95 = .ok (.if_icmp .eq 5, 3) := by decide +kernel
theorem dX2_isSameAs_98 : decode cX2_isSameAs 98 = .ok (.iconst 0, 1) := by decide +kernel
theorem dX2_isSameAs_99 : decode cX2_isSameAs 99 = .ok (.ireturn, 1) := by decide +kernel
theorem dX2_isSameAs_100 : decode cX2_isSameAs 100 = .ok (.iinc 2 1, 3) := by decide +kernel
theorem dX2_isSameAs_103 : decode cX2_isSameAs 103 = .ok (.goto (-88), 3) := by decide +kernel
theorem dX2_isSameAs_106 : decode cX2_isSameAs 106 = .ok (.iconst 1, 1) := by decide +kernel
theorem dX2_isSameAs_107 : decode cX2_isSameAs 107 = .ok (.ireturn, 1) := by decide +kernel
theorem dX2_compose_0 : decode cX2_compose 0 = .ok (.aload_n 0, 1) := by decide +kernel
theorem dX2_compose_1 : decode cX2_compose 1 = .ok (.iconst 0, 1) := by decide +kernel
theorem dX2_compose_2 : decode cX2_compose 2 = .ok (.putfield 43, 3) := by decide +kernel
theorem dX2_compose_5 : decode cX2_compose 5 = .ok (.aload_n 0, 1) := by decide +kernel
theorem dX2_compose_6 : decode cX2_compose 6 = .ok (.aload_n 1, 1) := by decide +kernel
theorem dX2_compose_7 : decode cX2_compose 7 = .ok (.aload_n 2, 1) := by decide +kernel
theorem dX2_compose_8 : decode cX2_compose 8 = .ok (.invokevirtual 47, 3) := by decide +kernel
theorem dX2_compose_11 : decode cX2_compose 11 = .ok (.iconst 0, 1) := by decide +kernel
theorem dX2_compose_12 : decode cX2_compose 12 = .ok (.istore_n 3, 1) := by decide +kernel
theorem dX2_compose_13 : decode cX2_compose 13 = .ok (.iload_n 3, 1) := by decide +kernel
theorem dX2_compose_14 : decode cX2_compose 14 = .ok (.iconst 5, 1) := by decide +kernel
theorem dX2_compose_15 : decode cX2_compose 15 = .ok (.if_icmp .ge 16, 3) := by decide +kernel
theorem dX2_compose_18 : decode cX2_compose 18 = .ok (.aload_n 0, 1) := by decide +kernel
theorem dX2_compose_19 : decode cX2_compose 19 = .ok (.getfield 39, 3) := by decide +kernel
theorem dX2_compose_22 : decode cX2_compose 22 = .ok (.iload_n 3, 1) := by decide +kernel
theorem dX2_compose_23 : decode cX2_compose 23 = .ok (.iconst 0, 1) := by decide +kernel
theorem dX2_compose_24 : decode cX2_compose 24 = .ok (.bastore, 1) := by decide +kernel
theorem dX2_compose_25 : decode cX2_compose 25 = .ok (.iinc 3 1, 3) := by decide +kernel
theorem dX2_compose_28 : decode cX2_compose 28 = .ok (.goto (-15), 3) := by decide +kernel
theorem dX2_compose_31 : decode cX2_compose 31 = .ok (.iconst 0, 1) := by decide +kernel
theorem dX2_compose_32 : decode cX2_compose 32 = .ok (.istore_n 3, 1) := by decide +kernel
theorem dX2_compose_33 : decode cX2_compose 33 = .ok (.iload_n 3, 1) := by decide +kernel
theorem dX2_compose_34 : decode cX2_compose 34 = .ok (.aload_n 0, 1) := by decide +kernel
theorem dX2_compose_35 : decode cX2_compose 35 = .ok (.getfield 51, 3) := by decide +kernel
theorem dX2_compose_38 : decode cX2_compose 38 = .ok (.if_icmp .ge 74, 3) := by decide +kernel
theorem dX2_compose_41 : decode cX2_compose 41 = .ok (.aload_n 0, 1) := by decide +kernel
theorem dX2_compose_42 : decode cX2_compose 42 = .ok (.getfield 36, 3) := by decide +kernel
theorem dX2_compose_45 : decode cX2_compose 45 = .ok (.iload_n 3, 1) := by decide +kernel
theorem dX2_compose_46 : decode cX2_compose 46 = .ok (.iaload, 1) := by decide +kernel
theorem dX2_compose_47 : decode cX2_compose 47 = .ok (.istore 4, 2) := by decide +kernel
theorem dX2_compose_49 : decode cX2_compose 49 = .ok (.aload_n 1, 1) := by decide +kernel
theorem dX2_compose_50 : decode cX2_compose 50 = .ok (.getfield 54, 3) := by decide +kernel
theorem dX2_compose_53 : decode cX2_compose 53 = .ok (.iload 4, 2) := by decide +kernel
theorem dX2_compose_55 : decode cX2_compose 55 = .ok (.iaload, 1) := by decide +kernel
theorem dX2_compose_56 : decode cX2_compose 56 = .ok (.istore 5, 2) := by decide +kernel
theorem dX2_compose_58 : decode cX2_compose 58 = .ok (.iload 5, 2) := by decide +kernel
theorem dX2_compose_60 : decode cX2_compose 60 = .ok (.ifCond .lt 9, 3) := by decide +kernel
theorem dX2_compose_63 : decode cX2_compose 63 = .ok (.iload 5, 2) := by decide +kernel
theorem dX2_compose_65 : decode cX2_compose 65 = .ok (.iconst 5, 1) := by decide +kernel
theorem dX2_compose_66 : decode cX2_compose 66 = .ok (.if_icmp .lt 14, 3) := by decide +kernel
theorem dX2_compose_69 : decode cX2_compose 69 = .ok (.aload_n 0, 1) := by decide +kernel
theorem dX2_compose_70 : decode cX2_compose 70 = .ok (.iload 4, 2) := by decide +kernel
theorem dX2_compose_72 : decode cX2_compose 72 = .ok (.iconst (-1), 1) := by decide +kernel
theorem dX2_compose_73 : decode cX2_compose 73 = .ok (.aload_n 2, 1) := by decide +kernel
theorem dX2_compose_74 : decode cX2_compose 74 = .ok (.invokevirtual 57, 3) := by decide +kernel
theorem dX2_compose_77 : decode cX2_compose 77 = .ok (.goto 29, 3) := by decide +kernel
theorem dX2_compose_80 : decode cX2_compose 80 = .ok (.aload_n 0, 1) := by decide +kernel
theorem dX2_compose_81 : decode cX2_compose 81 = .ok (.getfield 39, 3) := by decide +kernel
theorem dX2_compose_84 : decode cX2_compose 84 = .ok (.iload 5, 2) := by decide +kernel
theorem dX2_compose_86 : decode cX2_compose 86 = .ok (.baload, 1) := by decide +kernel
theorem dX2_compose_87 : decode cX2_compose 87 = .ok (.ifCond .ne 19, 3) := by decide +kernel
theorem dX2_compose_90 : decode cX2_compose 90 = .ok (.aload_n 0, 1) := by decide +kernel
theorem dX2_compose_91 : decode cX2_compose 91 = .ok (.getfield 39, 3) := by decide +kernel
theorem dX2_compose_94 : decode cX2_compose 94 = .ok (.iload 5, 2) := by decide +kernel
theorem dX2_compose_96 : decode cX2_compose 96 = .ok (.iconst 1, 1) := by decide +kernel
theorem dX2_compose_97 : decode cX2_compose 97 = .ok (.bastore, 1) := by decide +kernel
theorem dX2_compose_98 : decode cX2_compose 98 = .ok (.aload_n 0, 1) := by decide +kernel
theorem dX2_compose_99 : decode cX2_compose 99 = .ok (.aload_n 1, 1) := by decide +kernel
theorem dX2_compose_100 : decode cX2_compose 100 = .ok (.iload 5, 2) := by decide +kernel
theorem dX2_compose_102 : decode cX2_compose 102 = .ok (.aload_n 2, 1) := by decide +kernel
theorem dX2_compose_103 : decode cX2_compose 103 = .ok (.invokevirtual 61, 3) := by decide +kernel
theorem dX2_compose_106 : decode cX2_compose 106 = .ok (.iinc 3 1, 3) := by decide +kernel
theorem dX2_compose_109 : decode cX2_compose 109 = .ok (.goto (-76), 3) := by decide +kernel
theorem dX2_compose_112 : decode cX2_compose 112 = .ok (.return_, 1) := by decide +kernel
theorem dX2_orderKinds_0 : decode cX2_orderKinds 0 = .ok (.aload_n 0, 1) := by decide +kernel
theorem dX2_orderKinds_1 : decode cX2_orderKinds 1 = .ok (.iconst 0, 1) := by decide +kernel
theorem dX2_orderKinds_2 : decode cX2_orderKinds 2 = .ok (.putfield 51, 3) := by decide +kernel
theorem dX2_orderKinds_5 : decode cX2_orderKinds 5 = .ok (.iconst 0, 1) := by decide +kernel
theorem dX2_orderKinds_6 : decode cX2_orderKinds 6 = .ok (.istore_n 3, 1) := by decide +kernel
theorem dX2_orderKinds_7 : decode cX2_orderKinds 7 = .ok (.iload_n 3, 1) := by decide +kernel
theorem dX2_orderKinds_8 : decode cX2_orderKinds 8 = .ok (.bipush 12, 2) := by decide +kernel
theorem dX2_orderKinds_10 : decode cX2_orderKinds 10 = .ok (.if_icmp .ge 92, 3) := by decide +kernel
theorem dX2_orderKinds_13 : decode cX2_orderKinds 13 = .ok (.aload_n 2, 1) := by decide +kernel
theorem dX2_orderKinds_14 : decode cX2_orderKinds 14 = .ok (.getfield 65, 3) := by decide +kernel
theorem dX2_orderKinds_17 : decode cX2_orderKinds 17 = .ok (.iload_n 3, 1) := by decide +kernel
theorem dX2_orderKinds_18 : decode cX2_orderKinds 18 = .ok (.iaload, 1) := by decide +kernel
theorem dX2_orderKinds_19 : decode cX2_orderKinds 19 = .ok (.ifCond .le 77, 3) := by decide +kernel
theorem dX2_orderKinds_22 : decode cX2_orderKinds 22 = .ok (.aload_n 0, 1) := by decide +kernel
theorem dX2_orderKinds_23 : decode cX2_orderKinds 23 = .ok (.getfield 51, 3) := by decide +kernel
theorem dX2_orderKinds_26 : decode cX2_orderKinds 26 = .ok (.istore 4, 2) := by decide +kernel
theorem dX2_orderKinds_28 : decode cX2_orderKinds 28 = .ok (.iload 4, 2) := by decide +kernel
theorem dX2_orderKinds_30 : decode cX2_orderKinds 30 = .ok (.ifCond .le 48, 3) := by decide +kernel
theorem dX2_orderKinds_33 : decode cX2_orderKinds 33 = .ok (.aload_n 1, 1) := by decide +kernel
theorem dX2_orderKinds_34 : decode cX2_orderKinds 34 = .ok (.getfield 69, 3) := by decide +kernel
theorem dX2_orderKinds_37 : decode cX2_orderKinds 37 = .ok (.aload_n 0, 1) := by decide +kernel
theorem dX2_orderKinds_38 : decode cX2_orderKinds 38 = .ok (.getfield 36, 3) := by decide +kernel
theorem dX2_orderKinds_41 : decode cX2_orderKinds 41 = .ok (.iload 4, 2) := by decide +kernel
theorem dX2_orderKinds_43 : decode cX2_orderKinds 43 = .ok (.iconst 1, 1) := by decide +kernel
theorem dX2_orderKinds_44 : decode cX2_orderKinds 44 = .ok (.isub, 1) := by decide +kernel
theorem dX2_orderKinds_45 : decode cX2_orderKinds 45 = .ok (.iaload, 1) := by decide +kernel
theorem dX2_orderKinds_46 : decode cX2_orderKinds 46 = .ok (.iaload, 1) := by decide +kernel
theorem dX2_orderKinds_47 : decode cX2_orderKinds 47 = .ok (.aload_n 1, 1) := by decide +kernel
theorem dX2_orderKinds_48 : decode cX2_orderKinds 48 = .ok (.getfield 69, 3) := by decide +kernel
theorem dX2_orderKinds_51 : decode cX2_orderKinds 51 = .ok (.iload_n 3, 1) := by decide +kernel
theorem dX2_orderKinds_52 : decode cX2_orderKinds 52 = .ok (.iaload, 1) := by decide +kernel
theorem dX2_orderKinds_53 : decode cX2_orderKinds 53 = .ok (.if_icmp .le 25, 3) := by decide +kernel
theorem dX2_orderKinds_56 : decode cX2_orderKinds 56 = .ok (.aload_n 0, 1) := by decide +kernel
theorem dX2_orderKinds_57 : decode cX2_orderKinds 57 = .ok (.getfield 36, 3) := by decide +kernel
theorem dX2_orderKinds_60 : decode cX2_orderKinds 60 = .ok (.iload 4, 2) := by decide +kernel
theorem dX2_orderKinds_62 : decode cX2_orderKinds 62 = .ok (.aload_n 0, 1) := by decide +kernel
theorem dX2_orderKinds_63 : decode cX2_orderKinds 63 = .ok (.getfield 36, 3) := by decide +kernel
theorem dX2_orderKinds_66 : decode cX2_orderKinds 66 = .ok (.iload 4, 2) := by decide +kernel
theorem dX2_orderKinds_68 : decode cX2_orderKinds 68 = .ok (.iconst 1, 1) := by decide +kernel
theorem dX2_orderKinds_69 : decode cX2_orderKinds 69 = .ok (.isub, 1) := by decide +kernel
theorem dX2_orderKinds_70 : decode cX2_orderKinds 70 = .ok (.iaload, 1) := by decide +kernel
theorem dX2_orderKinds_71 : decode cX2_orderKinds 71 = .ok (.iastore, 1) := by decide +kernel
theorem dX2_orderKinds_72 : decode cX2_orderKinds 72 = .ok (.iinc 4 (-1), 3) := by decide +kernel
theorem dX2_orderKinds_75 : decode cX2_orderKinds 75 = .ok (.goto (-47), 3) := by decide +kernel
theorem dX2_orderKinds_78 : decode cX2_orderKinds 78 = .ok (.aload_n 0, 1) := by decide +kernel
theorem dX2_orderKinds_79 : decode cX2_orderKinds 79 = .ok (.getfield 36, 3) := by decide +kernel
theorem dX2_orderKinds_82 : decode cX2_orderKinds 82 = .ok (.iload 4, 2) := by decide +kernel
theorem dX2_orderKinds_84 : decode cX2_orderKinds 84 = .ok (.iload_n 3, 1) := by decide +kernel
theorem dX2_orderKinds_85 : decode cX2_orderKinds 85 = .ok (.iastore, 1) := by decide +kernel
theorem dX2_orderKinds_86 : decode cX2_orderKinds 86 = .ok (.aload_n 0, 1) := by decide +kernel
theorem dX2_orderKinds_87 : decode cX2_orderKinds 87 = .ok (.dup, 1) := by decide +kernel
theorem dX2_orderKinds_88 : decode cX2_orderKinds 88 = .ok (.getfield 51, 3) := by decide +kernel
theorem dX2_orderKinds_91 : decode cX2_orderKinds 91 = .ok (.iconst 1, 1) := by decide +kernel
theorem dX2_orderKinds_92 : decode cX2_orderKinds 92 = .ok (.iadd, 1) := by decide +kernel
theorem dX2_orderKinds_93 : decode cX2_orderKinds 93 = .ok (.putfield 51, 3) := by decide +kernel
theorem dX2_orderKinds_96 : decode cX2_orderKinds 96 = .ok (.iinc 3 1, 3) := by decide +kernel
theorem dX2_orderKinds_99 : decode cX2_orderKinds 99 = .ok (.goto (-92), 3) := by decide +kernel
theorem dX2_orderKinds_102 : decode cX2_orderKinds 102 = .ok (.return_, 1) := by decide +kernel
theorem dX2_addGroup_0 : decode cX2_addGroup 0 = .ok (.iconst 0, 1) := by decide +kernel
theorem dX2_addGroup_1 : decode cX2_addGroup 1 = .ok (.istore 4, 2) := by decide +kernel
theorem dX2_addGroup_3 : decode cX2_addGroup 3 = .ok (.iconst 0, 1) := by decide +kernel
theorem dX2_addGroup_4 : decode cX2_addGroup 4 = .ok (.istore 5, 2) := by decide +kernel
theorem dX2_addGroup_6 : decode cX2_addGroup 6 = .ok (.iconst 0, 1) := by decide +kernel
theorem dX2_addGroup_7 : decode cX2_addGroup 7 = .ok (.istore 6, 2) := by decide +kernel
theorem dX2_addGroup_9 : decode cX2_addGroup 9 = .ok (.iconst 0, 1) := by decide +kernel
theorem dX2_addGroup_10 : decode cX2_addGroup 10 = .ok (.istore 7, 2) := by decide +kernel
theorem dX2_addGroup_12 : decode cX2_addGroup 12 = .ok (.iload 7, 2) := by decide +kernel
theorem dX2_addGroup_14 : decode cX2_addGroup 14 = .ok (.bipush 12, 2) := by decide +kernel
theorem dX2_addGroup_16 : decode cX2_addGroup 16 = .ok (.if_icmp .ge 55, 3) := by decide +kernel
theorem dX2_addGroup_19 : decode cX2_addGroup 19 = .ok (.aload_n 1, 1) := by decide +kernel
theorem dX2_addGroup_20 : decode cX2_addGroup 20 = .ok (.getfield 54, 3) := by decide +kernel
theorem dX2_addGroup_23 : decode cX2_addGroup 23 = .ok (.iload 7, 2) := by decide +kernel
theorem dX2_addGroup_25 : decode cX2_addGroup 25 = .ok (.iaload, 1) := by decide +kernel
theorem dX2_addGroup_26 : decode cX2_addGroup 26 = .ok (.iload_n 2, 1) := by decide +kernel
theorem dX2_addGroup_27 : decode cX2_addGroup 27 = .ok (.if_icmp .ne 38, 3) := by decide +kernel
theorem dX2_addGroup_30 : decode cX2_addGroup 30 = .ok (.iinc 4 1, 3) := by decide +kernel
theorem dX2_addGroup_33 : decode cX2_addGroup 33 = .ok (.iload 5, 2) := by decide +kernel
theorem dX2_addGroup_35 : decode cX2_addGroup 35 = .ok (.aload_n 3, 1) := by decide +kernel
theorem dX2_addGroup_36 : decode cX2_addGroup 36 = .ok (.getfield 65, 3) := by decide +kernel
theorem dX2_addGroup_39 : decode cX2_addGroup 39 = .ok (.iload 7, 2) := by decide +kernel
theorem dX2_addGroup_41 : decode cX2_addGroup 41 = .ok (.iaload, 1) := by decide +kernel
theorem dX2_addGroup_42 : decode cX2_addGroup 42 = .ok (.ifCond .le 7, 3) := by decide +kernel
theorem dX2_addGroup_45 : decode cX2_addGroup 45 = .ok (.iconst 1, 1) := by decide +kernel
theorem dX2_addGroup_46 : decode cX2_addGroup 46 = .ok (.goto 4, 3) := by decide +kernel
theorem dX2_addGroup_49 : decode cX2_addGroup 49 = .ok (.iconst 0, 1) := by decide +kernel
theorem dX2_addGroup_50 : decode cX2_addGroup 50 = .ok (.iadd, 1) := by decide +kernel
theorem dX2_addGroup_51 : decode cX2_addGroup 51 = .ok (.istore 5, 2) := by decide +kernel
theorem dX2_addGroup_53 : decode cX2_addGroup 53 = .ok (.iload 6, 2) := by decide +kernel
theorem dX2_addGroup_55 : decode cX2_addGroup 55 = .ok (.aload_n 3, 1) := by decide +kernel
theorem dX2_addGroup_56 : decode cX2_addGroup 56 = .ok (.getfield 72, 3) := by decide +kernel
theorem dX2_addGroup_59 : decode cX2_addGroup 59 = .ok (.iload 7, 2) := by decide +kernel
theorem dX2_addGroup_61 : decode cX2_addGroup 61 = .ok (.iaload, 1) := by decide +kernel
theorem dX2_addGroup_62 : decode cX2_addGroup 62 = .ok (.iadd, 1) := by decide +kernel
theorem dX2_addGroup_63 : decode cX2_addGroup 63 = .ok (.istore 6, 2) := by decide +kernel
theorem dX2_addGroup_65 : decode cX2_addGroup 65 = .ok (.iinc 7 1, 3) := by decide +kernel
theorem dX2_addGroup_68 : decode cX2_addGroup 68 = .ok (.goto (-56), 3) := by decide +kernel
theorem dX2_addGroup_71 : decode cX2_addGroup 71 = .ok (.aload_n 1, 1) := by decide +kernel
theorem dX2_addGroup_72 : decode cX2_addGroup 72 = .ok (.getfield 75, 3) := by decide +kernel
theorem dX2_addGroup_75 : decode cX2_addGroup 75 = .ok (.iload_n 2, 1) := by decide +kernel
theorem dX2_addGroup_76 : decode cX2_addGroup 76 = .ok (.iaload, 1) := by decide +kernel
theorem dX2_addGroup_77 : decode cX2_addGroup 77 = .ok (.iconst 1, 1) := by decide +kernel
theorem dX2_addGroup_78 : decode cX2_addGroup 78 = .ok (.if_icmp .ne 28, 3) := by decide +kernel
theorem dX2_addGroup_81 : decode cX2_addGroup 81 = .ok (.iload 5, 2) := by decide +kernel
theorem dX2_addGroup_83 : decode cX2_addGroup 83 = .ok (.iconst 2, 1) := by decide +kernel
theorem dX2_addGroup_84 : decode cX2_addGroup 84 = .ok (.if_icmp .lt 22, 3) := by decide +kernel
theorem dX2_addGroup_87 : decode cX2_addGroup 87 = .ok (.iload 5, 2) := by decide +kernel
theorem dX2_addGroup_89 : decode cX2_addGroup 89 = .ok (.iload 4, 2) := by decide +kernel
theorem dX2_addGroup_91 : decode cX2_addGroup 91 = .ok (.if_icmp .ne 15, 3) := by decide +kernel
theorem dX2_addGroup_94 : decode cX2_addGroup 94 = .ok (.aload_n 0, 1) := by decide +kernel
theorem dX2_addGroup_95 : decode cX2_addGroup 95 = .ok (.iconst 2, 1) := by decide +kernel
theorem dX2_addGroup_96 : decode cX2_addGroup 96 = .ok (.iconst (-1), 1) := by decide +kernel
theorem dX2_addGroup_97 : decode cX2_addGroup 97 = .ok (.iload_n 2, 1) := by decide +kernel
theorem dX2_addGroup_98 : decode cX2_addGroup 98 = .ok (.iconst (-1), 1) := by decide +kernel
theorem dX2_addGroup_99 : decode cX2_addGroup 99 = .ok (.iconst (-1), 1) := by decide +kernel
theorem dX2_addGroup_100 : decode cX2_addGroup 100 = .ok (.iload 6, 2) := by decide +kernel
theorem dX2_addGroup_102 : decode cX2_addGroup 102 = .ok (.invokevirtual 78, 3) := by decide +kernel
theorem dX2_addGroup_105 : decode cX2_addGroup 105 = .ok (.return_, 1) := by decide +kernel
theorem dX2_addGroup_106 : decode cX2_addGroup 106 = .ok (.iload 5, 2) := by decide +kernel
theorem dX2_addGroup_108 : decode cX2_addGroup 108 = .ok (.iconst 2, 1) := by decide +kernel
theorem dX2_addGroup_109 : decode cX2_addGroup 109 = .ok (.if_icmp .lt 13, 3) := by decide +kernel
theorem dX2_addGroup_112 : decode cX2_addGroup 112 = .ok (.aload_n 0, 1) := by decide +kernel
theorem dX2_addGroup_113 : decode cX2_addGroup 113 = .ok (.iconst 1, 1) := by decide +kernel
theorem dX2_addGroup_114 : decode cX2_addGroup 114 = .ok (.iconst (-1), 1) := by decide +kernel
theorem dX2_addGroup_115 : decode cX2_addGroup 115 = .ok (.iload_n 2, 1) := by decide +kernel
theorem dX2_addGroup_116 : decode cX2_addGroup 116 = .ok (.iconst (-1), 1) := by decide +kernel
theorem dX2_addGroup_117 : decode cX2_addGroup 117 = .ok (.iconst (-1), 1) := by decide +kernel
theorem dX2_addGroup_118 : decode cX2_addGroup 118 = .ok (.iconst 0, 1) := by decide +kernel
theorem dX2_addGroup_119 : decode cX2_addGroup 119 = .ok (.invokevirtual 78, 3) := by decide +kernel
theorem dX2_addGroup_122 : decode cX2_addGroup 122 = .ok (.iconst 0, 1) := by decide +kernel
theorem dX2_addGroup_123 : decode cX2_addGroup 123 = .ok (.istore 7, 2) := by decide +kernel
theorem dX2_addGroup_125 : decode cX2_addGroup 125 = .ok (.iload 7, 2) := by decide +kernel
theorem dX2_addGroup_127 : decode cX2_addGroup 127 = .ok (.aload_n 0, 1) := by decide +kernel
theorem dX2_addGroup_128 : decode cX2_addGroup 128 = .ok (.getfield 51, 3) := by decide +kernel
theorem dX2_addGroup_131 : decode cX2_addGroup 131 = .ok (.if_icmp .ge 38, 3) := by decide +kernel
theorem dX2_addGroup_134 : decode cX2_addGroup 134 = .ok (.aload_n 1, 1) := by decide +kernel
theorem dX2_addGroup_135 : decode cX2_addGroup 135 = .ok (.getfield 54, 3) := by decide +kernel
theorem dX2_addGroup_138 : decode cX2_addGroup 138 = .ok (.aload_n 0, 1) := by decide +kernel
theorem dX2_addGroup_139 : decode cX2_addGroup 139 = .ok (.getfield 36, 3) := by decide +kernel
theorem dX2_addGroup_142 : decode cX2_addGroup 142 = .ok (.iload 7, 2) := by decide +kernel
theorem dX2_addGroup_144 : decode cX2_addGroup 144 = .ok (.iaload, 1) := by decide +kernel
theorem dX2_addGroup_145 : decode cX2_addGroup 145 = .ok (.iaload, 1) := by decide +kernel
theorem dX2_addGroup_146 : decode cX2_addGroup 146 = .ok (.iload_n 2, 1) := by decide +kernel
theorem dX2_addGroup_147 : decode cX2_addGroup 147 = .ok (.if_icmp .ne 16, 3) := by decide +kernel
theorem dX2_addGroup_150 : decode cX2_addGroup 150 = .ok (.aload_n 0, 1) := by decide +kernel
theorem dX2_addGroup_151 : decode cX2_addGroup 151 = .ok (.aload_n 0, 1) := by decide +kernel
theorem dX2_addGroup_152 : decode cX2_addGroup 152 = .ok (.getfield 36, 3) := by decide +kernel
theorem dX2_addGroup_155 : decode cX2_addGroup 155 = .ok (.iload 7, 2) := by decide +kernel
theorem dX2_addGroup_157 : decode cX2_addGroup 157 = .ok (.iaload, 1) := by decide +kernel
theorem dX2_addGroup_158 : decode cX2_addGroup 158 = .ok (.iload_n 2, 1) := by decide +kernel
theorem dX2_addGroup_159 : decode cX2_addGroup 159 = .ok (.aload_n 3, 1) := by decide +kernel
theorem dX2_addGroup_160 : decode cX2_addGroup 160 = .ok (.invokevirtual 57, 3) := by decide +kernel
theorem dX2_addGroup_163 : decode cX2_addGroup 163 = .ok (.iinc 7 1, 3) := by decide +kernel
theorem dX2_addGroup_166 : decode cX2_addGroup 166 = .ok (.goto (-41), 3) := by decide +kernel
theorem dX2_addGroup_169 : decode cX2_addGroup 169 = .ok (.return_, 1) := by decide +kernel
theorem dX2_addKindLines_0 : decode cX2_addKindLines 0 = .ok (.iload_n 1, 1) := by decide +kernel
theorem dX2_addKindLines_1 : decode cX2_addKindLines 1 = .ok (.bipush 6, 2) := by decide +kernel
theorem dX2_addKindLines_3 : decode cX2_addKindLines 3 = .ok (.imul, 1) := by decide +kernel
theorem dX2_addKindLines_4 : decode cX2_addKindLines 4 = .ok (.istore 4, 2) := by decide +kernel
theorem dX2_addKindLines_6 : decode cX2_addKindLines 6 = .ok (.iload 4, 2) := by decide +kernel
theorem dX2_addKindLines_8 : decode cX2_addKindLines 8 = .ok (.istore 5, 2) := by decide +kernel
theorem dX2_addKindLines_10 : decode cX2_addKindLines 10 = .ok (.iload 5, 2) := by decide +kernel
theorem dX2_addKindLines_12 : decode cX2_addKindLines 12 = .ok (.iload 4, 2) := by decide +kernel
theorem dX2_addKindLines_14 : decode cX2_addKindLines 14 = .ok (.aload_n 3, 1) := by decide +kernel
theorem dX2_addKindLines_15 : decode cX2_addKindLines 15 = .ok (.getfield 65, 3) := by decide +kernel
theorem dX2_addKindLines_18 : decode cX2_addKindLines 18 = .ok (.iload_n 1, 1) := by decide +kernel
theorem dX2_addKindLines_19 : decode cX2_addKindLines 19 = .ok (.iaload, 1) := by decide +kernel
theorem dX2_addKindLines_20 : decode cX2_addKindLines 20 = .ok (.iadd, 1) := by decide +kernel
theorem dX2_addKindLines_21 : decode cX2_addKindLines 21 = .ok (.if_icmp .ge 37, 3) := by decide +kernel
theorem dX2_addKindLines_24 : decode cX2_addKindLines 24 = .ok (.aload_n 0, 1) := by decide +kernel
theorem dX2_addKindLines_25 : decode cX2_addKindLines 25 = .ok (.iconst 0, 1) := by decide +kernel
theorem dX2_addKindLines_26 : decode cX2_addKindLines 26 = .ok (.iload_n 1, 1) := by decide +kernel
theorem dX2_addKindLines_27 : decode cX2_addKindLines 27 = .ok (.iload_n 2, 1) := by decide +kernel
theorem dX2_addKindLines_28 : decode cX2_addKindLines 28 = .ok (.aload_n 3, 1) := by decide +kernel
theorem dX2_addKindLines_29 : decode cX2_addKindLines 29 = .ok (.getfield 82, 3) := by decide +kernel
theorem dX2_addKindLines_32 : decode cX2_addKindLines 32 = .ok (.iload 5, 2) := by decide +kernel
theorem dX2_addKindLines_34 : decode cX2_addKindLines 34 = .ok (.iaload, 1) := by decide +kernel
theorem dX2_addKindLines_35 : decode cX2_addKindLines 35 = .ok (.aload_n 3, 1) := by decide +kernel
theorem dX2_addKindLines_36 : decode cX2_addKindLines 36 = .ok (.getfield 83, 3) := by decide +kernel
theorem dX2_addKindLines_39 : decode cX2_addKindLines 39 = .ok (.iload 5, 2) := by decide +kernel
theorem dX2_addKindLines_41 : decode cX2_addKindLines 41 = .ok (.iaload, 1) := by decide +kernel
theorem dX2_addKindLines_42 : decode cX2_addKindLines 42 = .ok (.aload_n 3, 1) := by decide +kernel
theorem dX2_addKindLines_43 : decode cX2_addKindLines 43 = .ok (.getfield 84, 3) := by decide +kernel
theorem dX2_addKindLines_46 : decode cX2_addKindLines 46 = .ok (.iload 5, 2) := by decide +kernel
theorem dX2_addKindLines_48 : decode cX2_addKindLines 48 = .ok (.iaload, 1) := by decide +kernel
theorem dX2_addKindLines_49 : decode cX2_addKindLines 49 = .ok (.invokevirtual 78, 3) := by decide +kernel
theorem dX2_addKindLines_52 : decode cX2_addKindLines 52 = .ok (.iinc 5 1, 3) := by decide +kernel
theorem dX2_addKindLines_55 : decode cX2_addKindLines 55 = .ok (.goto (-45), 3) := by decide +kernel
theorem dX2_addKindLines_58 : decode cX2_addKindLines 58 = .ok (.return_, 1) := by decide +kernel
theorem dX2_add_0 : decode cX2_add 0 = .ok (.aload_n 0, 1) := by decide +kernel
theorem dX2_add_1 : decode cX2_add 1 = .ok (.getfield 43, 3) := by decide +kernel
theorem dX2_add_4 : decode cX2_add 4 = .ok (.bipush 77, 2) := by decide +kernel
theorem dX2_add_6 : decode cX2_add 6 = .ok (.if_icmp .lt 4, 3) := by decide +kernel
theorem dX2_add_9 : decode cX2_add 9 = .ok (.return_, 1) := by decide +kernel
theorem dX2_add_10 : decode cX2_add 10 = .ok (.aload_n 0, 1) := by decide +kernel
theorem dX2_add_11 : decode cX2_add 11 = .ok (.getfield 9, 3) := by decide +kernel
theorem dX2_add_14 : decode cX2_add 14 = .ok (.aload_n 0, 1) := by decide +kernel
theorem dX2_add_15 : decode cX2_add 15 = .ok (.getfield 43, 3) := by decide +kernel
theorem dX2_add_18 : decode cX2_add 18 = .ok (.iload_n 1, 1) := by decide +kernel
theorem dX2_add_19 : decode cX2_add 19 = .ok (.iastore, 1) := by decide +kernel
theorem dX2_add_20 : decode cX2_add 20 = .ok (.aload_n 0, 1) := by decide +kernel
theorem dX2_add_21 : decode cX2_add 21 = .ok (.getfield 15, 3) := by decide +kernel
theorem dX2_add_24 : decode cX2_add 24 = .ok (.aload_n 0, 1) := by decide +kernel
theorem dX2_add_25 : decode cX2_add 25 = .ok (.getfield 43, 3) := by decide +kernel
theorem dX2_add_28 : decode cX2_add 28 = .ok (.iload_n 2, 1) := by decide +kernel
theorem dX2_add_29 : decode cX2_add 29 = .ok (.iastore, 1) := by decide +kernel
theorem dX2_add_30 : decode cX2_add 30 = .ok (.aload_n 0, 1) := by decide +kernel
theorem dX2_add_31 : decode cX2_add 31 = .ok (.getfield 18, 3) := by decide +kernel
theorem dX2_add_34 : decode cX2_add 34 = .ok (.aload_n 0, 1) := by decide +kernel
theorem dX2_add_35 : decode cX2_add 35 = .ok (.getfield 43, 3) := by decide +kernel
theorem dX2_add_38 : decode cX2_add 38 = .ok (.iload_n 3, 1) := by decide +kernel
theorem dX2_add_39 : decode cX2_add 39 = .ok (.iastore, 1) := by decide +kernel
theorem dX2_add_40 : decode cX2_add 40 = .ok (.aload_n 0, 1) := by decide +kernel
theorem dX2_add_41 : decode cX2_add 41 = .ok (.getfield 21, 3) := by decide +kernel
theorem dX2_add_44 : decode cX2_add 44 = .ok (.aload_n 0, 1) := by decide +kernel
theorem dX2_add_45 : decode cX2_add 45 = .ok (.getfield 43, 3) := by decide +kernel
theorem dX2_add_48 : decode cX2_add 48 = .ok (.iload 4, 2) := by decide +kernel
theorem dX2_add_50 : decode cX2_add 50 = .ok (.iastore, 1) := by decide +kernel
theorem dX2_add_51 : decode cX2_add 51 = .ok (.aload_n 0, 1) := by decide +kernel
theorem dX2_add_52 : decode cX2_add 52 = .ok (.getfield 24, 3) := by decide +kernel
theorem dX2_add_55 : decode cX2_add 55 = .ok (.aload_n 0, 1) := by decide +kernel
theorem dX2_add_56 : decode cX2_add 56 = .ok (.getfield 43, 3) := by decide +kernel
theorem dX2_add_59 : decode cX2_add 59 = .ok (.iload 5, 2) := by decide +kernel
theorem dX2_add_61 : decode cX2_add 61 = .ok (.iastore, 1) := by decide +kernel
theorem dX2_add_62 : decode cX2_add 62 = .ok (.aload_n 0, 1) := by decide +kernel
theorem dX2_add_63 : decode cX2_add 63 = .ok (.getfield 27, 3) := by decide +kernel
theorem dX2_add_66 : decode cX2_add 66 = .ok (.aload_n 0, 1) := by decide +kernel
theorem dX2_add_67 : decode cX2_add 67 = .ok (.getfield 43, 3) := by decide +kernel
theorem dX2_add_70 : decode cX2_add 70 = .ok (.iload 6, 2) := by decide +kernel
theorem dX2_add_72 : decode cX2_add 72 = .ok (.iastore, 1) := by decide +kernel
theorem dX2_add_73 : decode cX2_add 73 = .ok (.aload_n 0, 1) := by decide +kernel
theorem dX2_add_74 : decode cX2_add 74 = .ok (.dup, 1) := by decide +kernel
theorem dX2_add_75 : decode cX2_add 75 = .ok (.getfield 43, 3) := by decide +kernel
theorem dX2_add_78 : decode cX2_add 78 = .ok (.iconst 1, 1) := by decide +kernel
theorem dX2_add_79 : decode cX2_add 79 = .ok (.iadd, 1) := by decide +kernel
theorem dX2_add_80 : decode cX2_add 80 = .ok (.putfield 43, 3) := by decide +kernel
theorem dX2_add_83 : decode cX2_add 83 = .ok (.return_, 1) := by decide +kernel
theorem dX2_layOut_0 : decode cX2_layOut 0 = .ok (.iload_n 1, 1) := by decide +kernel
theorem dX2_layOut_1 : decode cX2_layOut 1 = .ok (.ifCond .le 16, 3) := by decide +kernel
theorem dX2_layOut_4 : decode cX2_layOut 4 = .ok (.aload_n 0, 1) := by decide +kernel
theorem dX2_layOut_5 : decode cX2_layOut 5 = .ok (.getfield 43, 3) := by decide +kernel
theorem dX2_layOut_8 : decode cX2_layOut 8 = .ok (.iload_n 1, 1) := by decide +kernel
theorem dX2_layOut_9 : decode cX2_layOut 9 = .ok (.iadd, 1) := by decide +kernel
theorem dX2_layOut_10 : decode cX2_layOut 10 = .ok (.iconst 1, 1) := by decide +kernel
theorem dX2_layOut_11 : decode cX2_layOut 11 = .ok (.isub, 1) := by decide +kernel
theorem dX2_layOut_12 : decode cX2_layOut 12 = .ok (.iload_n 1, 1) := by decide +kernel
theorem dX2_layOut_13 : decode cX2_layOut 13 = .ok (.idiv, 1) := by decide +kernel
theorem dX2_layOut_14 : decode cX2_layOut 14 = .ok (.goto 7, 3) := by decide +kernel
theorem dX2_layOut_17 : decode cX2_layOut 17 = .ok (.aload_n 0, 1) := by decide +kernel
theorem dX2_layOut_18 : decode cX2_layOut 18 = .ok (.getfield 43, 3) := by decide +kernel
theorem dX2_layOut_21 : decode cX2_layOut 21 = .ok (.istore_n 2, 1) := by decide +kernel
theorem dX2_layOut_22 : decode cX2_layOut 22 = .ok (.iconst 0, 1) := by decide +kernel
theorem dX2_layOut_23 : decode cX2_layOut 23 = .ok (.istore_n 3, 1) := by decide +kernel
theorem dX2_layOut_24 : decode cX2_layOut 24 = .ok (.iconst 0, 1) := by decide +kernel
theorem dX2_layOut_25 : decode cX2_layOut 25 = .ok (.istore 4, 2) := by decide +kernel
theorem dX2_layOut_27 : decode cX2_layOut 27 = .ok (.aload_n 0, 1) := by decide +kernel
theorem dX2_layOut_28 : decode cX2_layOut 28 = .ok (.iconst 0, 1) := by decide +kernel
theorem dX2_layOut_29 : decode cX2_layOut 29 = .ok (.putfield 85, 3) := by decide +kernel
theorem dX2_layOut_32 : decode cX2_layOut 32 = .ok (.iconst 0, 1) := by decide +kernel
theorem dX2_layOut_33 : decode cX2_layOut 33 = .ok (.istore 5, 2) := by decide +kernel
theorem dX2_layOut_35 : decode cX2_layOut 35 = .ok (.iload 5, 2) := by decide +kernel
theorem dX2_layOut_37 : decode cX2_layOut 37 = .ok (.aload_n 0, 1) := by decide +kernel
theorem dX2_layOut_38 : decode cX2_layOut 38 = .ok (.getfield 43, 3) := by decide +kernel
theorem dX2_layOut_41 : decode cX2_layOut 41 = .ok (.if_icmp .ge 98, 3) := by decide +kernel
theorem dX2_layOut_44 : decode cX2_layOut 44 = .ok (.iload 4, 2) := by decide +kernel
theorem dX2_layOut_46 : decode cX2_layOut 46 = .ok (.iload_n 2, 1) := by decide +kernel
theorem dX2_layOut_47 : decode cX2_layOut 47 = .ok (.if_icmp .ge 28, 3) := by decide +kernel
theorem dX2_layOut_50 : decode cX2_layOut 50 = .ok (.aload_n 0, 1) := by decide +kernel
theorem dX2_layOut_51 : decode cX2_layOut 51 = .ok (.getfield 9, 3) := by decide +kernel
theorem dX2_layOut_54 : decode cX2_layOut 54 = .ok (.iload 5, 2) := by decide +kernel
theorem dX2_layOut_56 : decode cX2_layOut 56 = .ok (.iaload, 1) := by decide +kernel
theorem dX2_layOut_57 : decode cX2_layOut 57 = .ok (.iconst 1, 1) := by decide +kernel
theorem dX2_layOut_58 : decode cX2_layOut 58 = .ok (.if_icmp .ne 21, 3) := by decide +kernel
theorem dX2_layOut_61 : decode cX2_layOut 61 = .ok (.iload 4, 2) := by decide +kernel
theorem dX2_layOut_63 : decode cX2_layOut 63 = .ok (.iconst 1, 1) := by decide +kernel
theorem dX2_layOut_64 : decode cX2_layOut 64 = .ok (.if_icmp .lt 15, 3) := by decide +kernel
theorem dX2_layOut_67 : decode cX2_layOut 67 = .ok (.iload 4, 2) := by decide +kernel
theorem dX2_layOut_69 : decode cX2_layOut 69 = .ok (.iload_n 2, 1) := by decide +kernel
theorem dX2_layOut_70 : decode cX2_layOut 70 = .ok (.iconst 1, 1) := by decide +kernel
theorem dX2_layOut_71 : decode cX2_layOut 71 = .ok (.isub, 1) := by decide +kernel
theorem dX2_layOut_72 : decode cX2_layOut 72 = .ok (.if_icmp .lt 7, 3) := by decide +kernel
theorem dX2_layOut_75 : decode cX2_layOut 75 = .ok (.iconst 1, 1) := by decide +kernel
theorem dX2_layOut_76 : decode cX2_layOut 76 = .ok (.goto 4, 3) := by decide +kernel
theorem dX2_layOut_79 : decode cX2_layOut 79 = .ok (.iconst 0, 1) := by decide +kernel
theorem dX2_layOut_80 : decode cX2_layOut 80 = .ok (.istore 6, 2) := by decide +kernel
theorem dX2_layOut_82 : decode cX2_layOut 82 = .ok (.iload 6, 2) := by decide +kernel
theorem dX2_layOut_84 : decode cX2_layOut 84 = .ok (.ifCond .eq 16, 3) := by decide +kernel
theorem dX2_layOut_87 : decode cX2_layOut 87 = .ok (.iload_n 3, 1) := by decide +kernel
theorem dX2_layOut_88 : decode cX2_layOut 88 = .ok (.iload_n 1, 1) := by decide +kernel
theorem dX2_layOut_89 : decode cX2_layOut 89 = .ok (.iconst 1, 1) := by decide +kernel
theorem dX2_layOut_90 : decode cX2_layOut 90 = .ok (.isub, 1) := by decide +kernel
theorem dX2_layOut_91 : decode cX2_layOut 91 = .ok (.if_icmp .ge 9, 3) := by decide +kernel
theorem dX2_layOut_94 : decode cX2_layOut 94 = .ok (.iinc 3 1, 3) := by decide +kernel
theorem dX2_layOut_97 : decode cX2_layOut 97 = .ok (.iconst 0, 1) := by decide +kernel
theorem dX2_layOut_98 : decode cX2_layOut 98 = .ok (.istore 4, 2) := by decide +kernel
theorem dX2_layOut_100 : decode cX2_layOut 100 = .ok (.aload_n 0, 1) := by decide +kernel
theorem dX2_layOut_101 : decode cX2_layOut 101 = .ok (.getfield 30, 3) := by decide +kernel
theorem dX2_layOut_104 : decode cX2_layOut 104 = .ok (.iload 5, 2) := by decide +kernel
theorem dX2_layOut_106 : decode cX2_layOut 106 = .ok (.iload_n 3, 1) := by decide +kernel
theorem dX2_layOut_107 : decode cX2_layOut 107 = .ok (.iastore, 1) := by decide +kernel
theorem dX2_layOut_108 : decode cX2_layOut 108 = .ok (.aload_n 0, 1) := by decide +kernel
theorem dX2_layOut_109 : decode cX2_layOut 109 = .ok (.getfield 33, 3) := by decide +kernel
theorem dX2_layOut_112 : decode cX2_layOut 112 = .ok (.iload 5, 2) := by decide +kernel
theorem dX2_layOut_114 : decode cX2_layOut 114 = .ok (.iload 4, 2) := by decide +kernel
theorem dX2_layOut_116 : decode cX2_layOut 116 = .ok (.iastore, 1) := by decide +kernel
theorem dX2_layOut_117 : decode cX2_layOut 117 = .ok (.iinc 4 1, 3) := by decide +kernel
theorem dX2_layOut_120 : decode cX2_layOut 120 = .ok (.aload_n 0, 1) := by decide +kernel
theorem dX2_layOut_121 : decode cX2_layOut 121 = .ok (.aload_n 0, 1) := by decide +kernel
theorem dX2_layOut_122 : decode cX2_layOut 122 = .ok (.getfield 85, 3) := by decide +kernel
theorem dX2_layOut_125 : decode cX2_layOut 125 = .ok (.iload 4, 2) := by decide +kernel
theorem dX2_layOut_127 : decode cX2_layOut 127 = .ok (.invokestatic 88, 3) := by decide +kernel
theorem dX2_layOut_130 : decode cX2_layOut 130 = .ok (.putfield 85, 3) := by decide +kernel
theorem dX2_layOut_133 : decode cX2_layOut 133 = .ok (.iinc 5 1, 3) := by decide +kernel
theorem dX2_layOut_136 : decode cX2_layOut 136 = .ok (.goto (-101), 3) := by decide +kernel
theorem dX2_layOut_139 : decode cX2_layOut 139 = .ok (.aload_n 0, 1) := by decide +kernel
theorem dX2_layOut_140 : decode cX2_layOut 140 = .ok (.aload_n 0, 1) := by decide +kernel
theorem dX2_layOut_141 : decode cX2_layOut 141 = .ok (.getfield 43, 3) := by decide +kernel
theorem dX2_layOut_144 : decode cX2_layOut 144 = .ok (.ifCond .le 9, 3) := by decide +kernel
theorem dX2_layOut_147 : decode cX2_layOut 147 = .ok (.iload_n 3, 1) := by decide +kernel
theorem dX2_layOut_148 : decode cX2_layOut 148 = .ok (.iconst 1, 1) := by decide +kernel
theorem dX2_layOut_149 : decode cX2_layOut 149 = .ok (.iadd, 1) := by decide +kernel
theorem dX2_layOut_150 : decode cX2_layOut 150 = .ok (.goto 4, 3) := by decide +kernel
theorem dX2_layOut_153 : decode cX2_layOut 153 = .ok (.iconst 0, 1) := by decide +kernel
theorem dX2_layOut_154 : decode cX2_layOut 154 = .ok (.putfield 94, 3) := by decide +kernel
theorem dX2_layOut_157 : decode cX2_layOut 157 = .ok (.return_, 1) := by decide +kernel
theorem dX2_countOfKind_0 : decode cX2_countOfKind 0 = .ok (.iconst 0, 1) := by decide +kernel
theorem dX2_countOfKind_1 : decode cX2_countOfKind 1 = .ok (.istore_n 2, 1) := by decide +kernel
theorem dX2_countOfKind_2 : decode cX2_countOfKind 2 = .ok (.iconst 0, 1) := by decide +kernel
theorem dX2_countOfKind_3 : decode cX2_countOfKind 3 = .ok (.istore_n 3, 1) := by decide +kernel
theorem dX2_countOfKind_4 : decode cX2_countOfKind 4 = .ok (.iload_n 3, 1) := by decide +kernel
theorem dX2_countOfKind_5 : decode cX2_countOfKind 5 = .ok (.aload_n 0, 1) := by decide +kernel
theorem dX2_countOfKind_6 : decode cX2_countOfKind 6 = .ok (.getfield 43, 3) := by decide +kernel
theorem dX2_countOfKind_9 : decode cX2_countOfKind 9 = .ok (.if_icmp .ge 31, 3) := by decide +kernel
theorem dX2_countOfKind_12 : decode cX2_countOfKind 12 = .ok (.aload_n 0, 1) := by decide +kernel
theorem dX2_countOfKind_13 : decode cX2_countOfKind 13 = .ok (.getfield 9, 3) := by decide +kernel
theorem dX2_countOfKind_16 : decode cX2_countOfKind 16 = .ok (.iload_n 3, 1) := by decide +kernel
theorem dX2_countOfKind_17 : decode cX2_countOfKind 17 = .ok (.iaload, 1) := by decide +kernel
theorem dX2_countOfKind_18 : decode cX2_countOfKind 18 = .ok (.ifCond .ne 16, 3) := by decide +kernel
theorem dX2_countOfKind_21 : decode cX2_countOfKind 21 = .ok (.aload_n 0, 1) := by decide +kernel
theorem dX2_countOfKind_22 : decode cX2_countOfKind 22 = .ok (.getfield 15, 3) := by decide +kernel
theorem dX2_countOfKind_25 : decode cX2_countOfKind 25 = .ok (.iload_n 3, 1) := by decide +kernel
theorem dX2_countOfKind_26 : decode cX2_countOfKind 26 = .ok (.iaload, 1) := by decide +kernel
theorem dX2_countOfKind_27 : decode cX2_countOfKind 27 = .ok (.iload_n 1, 1) := by decide +kernel
theorem dX2_countOfKind_28 : decode cX2_countOfKind 28 = .ok (.if_icmp .ne 6, 3) := by decide +kernel
theorem dX2_countOfKind_31 : decode cX2_countOfKind 31 = .ok (.iinc 2 1, 3) := by decide +kernel
theorem dX2_countOfKind_34 : decode cX2_countOfKind 34 = .ok (.iinc 3 1, 3) := by decide +kernel
theorem dX2_countOfKind_37 : decode cX2_countOfKind 37 = .ok (.goto (-33), 3) := by decide +kernel
theorem dX2_countOfKind_40 : decode cX2_countOfKind 40 = .ok (.iload_n 2, 1) := by decide +kernel
theorem dX2_countOfKind_41 : decode cX2_countOfKind 41 = .ok (.ireturn, 1) := by decide +kernel
theorem dX2_fact_0 : decode cX2_fact 0 = .ok (.iload_n 1, 1) := by decide +kernel
theorem dX2_fact_1 : decode cX2_fact 1 = .ok (.ifCond .lt 11, 3) := by decide +kernel
theorem dX2_fact_4 : decode cX2_fact 4 = .ok (.iload_n 1, 1) := by decide +kernel
theorem dX2_fact_5 : decode cX2_fact 5 = .ok (.aload_n 0, 1) := by decide +kernel
theorem dX2_fact_6 : decode cX2_fact 6 = .ok (.getfield 43, 3) := by decide +kernel
theorem dX2_fact_9 : decode cX2_fact 9 = .ok (.if_icmp .lt 5, 3) := by decide +kernel
theorem dX2_fact_12 : decode cX2_fact 12 = .ok (.iconst (-1), 1) := by decide +kernel
theorem dX2_fact_13 : decode cX2_fact 13 = .ok (.ireturn, 1) := by decide +kernel
theorem dX2_fact_14 : decode cX2_fact 14 = .ok (.iload_n 2, 1) := by decide +kernel
theorem dX2_fact_15 : decode cX2_fact 15 = .ok (.tableswitch 90 0 6 #[41, 48, 55, 62, 69, 76, 83], 41) := by decide +kernel
theorem dX2_fact_56 : decode cX2_fact 56 = .ok (.aload_n 0, 1) := by decide +kernel
theorem dX2_fact_57 : decode cX2_fact 57 = .ok (.getfield 9, 3) := by decide +kernel
theorem dX2_fact_60 : decode cX2_fact 60 = .ok (.iload_n 1, 1) := by decide +kernel
theorem dX2_fact_61 : decode cX2_fact 61 = .ok (.iaload, 1) := by decide +kernel
theorem dX2_fact_62 : decode cX2_fact 62 = .ok (.ireturn, 1) := by decide +kernel
theorem dX2_fact_63 : decode cX2_fact 63 = .ok (.aload_n 0, 1) := by decide +kernel
theorem dX2_fact_64 : decode cX2_fact 64 = .ok (.getfield 15, 3) := by decide +kernel
theorem dX2_fact_67 : decode cX2_fact 67 = .ok (.iload_n 1, 1) := by decide +kernel
theorem dX2_fact_68 : decode cX2_fact 68 = .ok (.iaload, 1) := by decide +kernel
theorem dX2_fact_69 : decode cX2_fact 69 = .ok (.ireturn, 1) := by decide +kernel
theorem dX2_fact_70 : decode cX2_fact 70 = .ok (.aload_n 0, 1) := by decide +kernel
theorem dX2_fact_71 : decode cX2_fact 71 = .ok (.getfield 18, 3) := by decide +kernel
theorem dX2_fact_74 : decode cX2_fact 74 = .ok (.iload_n 1, 1) := by decide +kernel
theorem dX2_fact_75 : decode cX2_fact 75 = .ok (.iaload, 1) := by decide +kernel
theorem dX2_fact_76 : decode cX2_fact 76 = .ok (.ireturn, 1) := by decide +kernel
theorem dX2_fact_77 : decode cX2_fact 77 = .ok (.aload_n 0, 1) := by decide +kernel
theorem dX2_fact_78 : decode cX2_fact 78 = .ok (.getfield 21, 3) := by decide +kernel
theorem dX2_fact_81 : decode cX2_fact 81 = .ok (.iload_n 1, 1) := by decide +kernel
theorem dX2_fact_82 : decode cX2_fact 82 = .ok (.iaload, 1) := by decide +kernel
theorem dX2_fact_83 : decode cX2_fact 83 = .ok (.ireturn, 1) := by decide +kernel
theorem dX2_fact_84 : decode cX2_fact 84 = .ok (.aload_n 0, 1) := by decide +kernel
theorem dX2_fact_85 : decode cX2_fact 85 = .ok (.getfield 24, 3) := by decide +kernel
theorem dX2_fact_88 : decode cX2_fact 88 = .ok (.iload_n 1, 1) := by decide +kernel
theorem dX2_fact_89 : decode cX2_fact 89 = .ok (.iaload, 1) := by decide +kernel
theorem dX2_fact_90 : decode cX2_fact 90 = .ok (.ireturn, 1) := by decide +kernel
theorem dX2_fact_91 : decode cX2_fact 91 = .ok (.aload_n 0, 1) := by decide +kernel
theorem dX2_fact_92 : decode cX2_fact 92 = .ok (.getfield 27, 3) := by decide +kernel
theorem dX2_fact_95 : decode cX2_fact 95 = .ok (.iload_n 1, 1) := by decide +kernel
theorem dX2_fact_96 : decode cX2_fact 96 = .ok (.iaload, 1) := by decide +kernel
theorem dX2_fact_97 : decode cX2_fact 97 = .ok (.ireturn, 1) := by decide +kernel
theorem dX2_fact_98 : decode cX2_fact 98 = .ok (.aload_n 0, 1) := by decide +kernel
theorem dX2_fact_99 : decode cX2_fact 99 = .ok (.getfield 30, 3) := by decide +kernel
theorem dX2_fact_102 : decode cX2_fact 102 = .ok (.iload_n 1, 1) := by decide +kernel
theorem dX2_fact_103 : decode cX2_fact 103 = .ok (.iaload, 1) := by decide +kernel
theorem dX2_fact_104 : decode cX2_fact 104 = .ok (.ireturn, 1) := by decide +kernel
theorem dX2_fact_105 : decode cX2_fact 105 = .ok (.aload_n 0, 1) := by decide +kernel
theorem dX2_fact_106 : decode cX2_fact 106 = .ok (.getfield 33, 3) := by decide +kernel
theorem dX2_fact_109 : decode cX2_fact 109 = .ok (.iload_n 1, 1) := by decide +kernel
theorem dX2_fact_110 : decode cX2_fact 110 = .ok (.iaload, 1) := by decide +kernel
theorem dX2_fact_111 : decode cX2_fact 111 = .ok (.ireturn, 1) := by decide +kernel
theorem dX3_init_0 : decode cX3_init 0 = .ok (.aload_n 0, 1) := by decide +kernel
theorem dX3_init_1 : decode cX3_init 1 = .ok (.invokespecial 3, 3) := by decide +kernel
theorem dX3_init_4 : decode cX3_init 4 = .ok (.aload_n 0, 1) := by decide +kernel
theorem dX3_init_5 : decode cX3_init 5 = .ok (.bipush 40, 2) := by decide +kernel
theorem dX3_init_7 : decode cX3_init 7 = .ok (.newarray .int, 2) := by decide +kernel
theorem dX3_init_9 : decode cX3_init 9 = .ok (.putfield 9, 3) := by decide +kernel
theorem dX3_init_12 : decode cX3_init 12 = .ok (.aload_n 0, 1) := by decide +kernel
theorem dX3_init_13 : decode cX3_init 13 = .ok (.bipush 40, 2) := by decide +kernel
theorem dX3_init_15 : decode cX3_init 15 = .ok (.newarray .int, 2) := by decide +kernel
theorem dX3_init_17 : decode cX3_init 17 = .ok (.putfield 15, 3) := by decide +kernel
theorem dX3_init_20 : decode cX3_init 20 = .ok (.aload_n 0, 1) := by decide +kernel
theorem dX3_init_21 : decode cX3_init 21 = .ok (.bipush 40, 2) := by decide +kernel
theorem dX3_init_23 : decode cX3_init 23 = .ok (.newarray .int, 2) := by decide +kernel
theorem dX3_init_25 : decode cX3_init 25 = .ok (.putfield 18, 3) := by decide +kernel
theorem dX3_init_28 : decode cX3_init 28 = .ok (.aload_n 0, 1) := by decide +kernel
theorem dX3_init_29 : decode cX3_init 29 = .ok (.bipush 40, 2) := by decide +kernel
theorem dX3_init_31 : decode cX3_init 31 = .ok (.newarray .int, 2) := by decide +kernel
theorem dX3_init_33 : decode cX3_init 33 = .ok (.putfield 21, 3) := by decide +kernel
theorem dX3_init_36 : decode cX3_init 36 = .ok (.aload_n 0, 1) := by decide +kernel
theorem dX3_init_37 : decode cX3_init 37 = .ok (.bipush 40, 2) := by decide +kernel
theorem dX3_init_39 : decode cX3_init 39 = .ok (.newarray .int, 2) := by decide +kernel
theorem dX3_init_41 : decode cX3_init 41 = .ok (.putfield 24, 3) := by decide +kernel
theorem dX3_init_44 : decode cX3_init 44 = .ok (.aload_n 0, 1) := by decide +kernel
theorem dX3_init_45 : decode cX3_init 45 = .ok (.bipush 12, 2) := by decide +kernel
theorem dX3_init_47 : decode cX3_init 47 = .ok (.newarray .int, 2) := by decide +kernel
theorem dX3_init_49 : decode cX3_init 49 = .ok (.putfield 27, 3) := by decide +kernel
theorem dX3_init_52 : decode cX3_init 52 = .ok (.aload_n 0, 1) := by decide +kernel
theorem dX3_init_53 : decode cX3_init 53 = .ok (.bipush 12, 2) := by decide +kernel
theorem dX3_init_55 : decode cX3_init 55 = .ok (.newarray .int, 2) := by decide +kernel
theorem dX3_init_57 : decode cX3_init 57 = .ok (.putfield 30, 3) := by decide +kernel
theorem dX3_init_60 : decode cX3_init 60 = .ok (.aload_n 0, 1) := by decide +kernel
theorem dX3_init_61 : decode cX3_init 61 = .ok (.bipush 12, 2) := by decide +kernel
theorem dX3_init_63 : decode cX3_init 63 = .ok (.newarray .int, 2) := by decide +kernel
theorem dX3_init_65 : decode cX3_init 65 = .ok (.putfield 33, 3) := by decide +kernel
theorem dX3_init_68 : decode cX3_init 68 = .ok (.aload_n 0, 1) := by decide +kernel
theorem dX3_init_69 : decode cX3_init 69 = .ok (.bipush 60, 2) := by decide +kernel
theorem dX3_init_71 : decode cX3_init 71 = .ok (.newarray .int, 2) := by decide +kernel
theorem dX3_init_73 : decode cX3_init 73 = .ok (.putfield 36, 3) := by decide +kernel
theorem dX3_init_76 : decode cX3_init 76 = .ok (.aload_n 0, 1) := by decide +kernel
theorem dX3_init_77 : decode cX3_init 77 = .ok (.iconst 5, 1) := by decide +kernel
theorem dX3_init_78 : decode cX3_init 78 = .ok (.newarray .int, 2) := by decide +kernel
theorem dX3_init_80 : decode cX3_init 80 = .ok (.putfield 39, 3) := by decide +kernel
theorem dX3_init_83 : decode cX3_init 83 = .ok (.aload_n 0, 1) := by decide +kernel
theorem dX3_init_84 : decode cX3_init 84 = .ok (.iconst 5, 1) := by decide +kernel
theorem dX3_init_85 : decode cX3_init 85 = .ok (.newarray .int, 2) := by decide +kernel
theorem dX3_init_87 : decode cX3_init 87 = .ok (.putfield 42, 3) := by decide +kernel
theorem dX3_init_90 : decode cX3_init 90 = .ok (.aload_n 0, 1) := by decide +kernel
theorem dX3_init_91 : decode cX3_init 91 = .ok (.iconst 4, 1) := by decide +kernel
theorem dX3_init_92 : decode cX3_init 92 = .ok (.newarray .int, 2) := by decide +kernel
theorem dX3_init_94 : decode cX3_init 94 = .ok (.putfield 45, 3) := by decide +kernel
theorem dX3_init_97 : decode cX3_init 97 = .ok (.iconst 0, 1) := by decide +kernel
theorem dX3_init_98 : decode cX3_init 98 = .ok (.istore_n 1, 1) := by decide +kernel
theorem dX3_init_99 : decode cX3_init 99 = .ok (.iload_n 1, 1) := by decide +kernel
theorem dX3_init_100 : decode cX3_init 100 = .ok (.bipush 12, 2) := by decide +kernel
theorem dX3_init_102 : decode cX3_init 102 = .ok (.if_icmp .ge 23, 3) := by decide +kernel
theorem dX3_init_105 : decode cX3_init 105 = .ok (.aload_n 0, 1) := by decide +kernel
theorem dX3_init_106 : decode cX3_init 106 = .ok (.getfield 27, 3) := by decide +kernel
theorem dX3_init_109 : decode cX3_init 109 = .ok (.iload_n 1, 1) := by decide +kernel
theorem dX3_init_110 : decode cX3_init 110 = .ok (.iload_n 1, 1) := by decide +kernel
theorem dX3_init_111 : decode cX3_init 111 = .ok (.iastore, 1) := by decide +kernel
theorem dX3_init_112 : decode cX3_init 112 = .ok (.aload_n 0, 1) := by decide +kernel
theorem dX3_init_113 : decode cX3_init 113 = .ok (.getfield 30, 3) := by decide +kernel
theorem dX3_init_116 : decode cX3_init 116 = .ok (.iload_n 1, 1) := by decide +kernel
theorem dX3_init_117 : decode cX3_init 117 = .ok (.iconst (-1), 1) := by decide +kernel
theorem dX3_init_118 : decode cX3_init 118 = .ok (.iastore, 1) := by decide +kernel
theorem dX3_init_119 : decode cX3_init 119 = .ok (.iinc 1 1, 3) := by decide +kernel
theorem dX3_init_122 : decode cX3_init 122 = .ok (.goto (-23), 3) := by decide +kernel
theorem dX3_init_125 : decode cX3_init 125 = .ok (.aload_n 0, 1) := by decide +kernel
theorem dX3_init_126 : decode cX3_init 126 = .ok (.getfield 42, 3) := by decide +kernel
theorem dX3_init_129 : decode cX3_init 129 = .ok (.iconst 2, 1) := by decide +kernel
theorem dX3_init_130 : decode cX3_init 130 = .ok (.bipush 100, 2) := by decide +kernel
theorem dX3_init_132 : decode cX3_init 132 = .ok (.iastore, 1) := by decide +kernel
theorem dX3_init_133 : decode cX3_init 133 = .ok (.aload_n 0, 1) := by decide +kernel
theorem dX3_init_134 : decode cX3_init 134 = .ok (.getfield 42, 3) := by decide +kernel
theorem dX3_init_137 : decode cX3_init 137 = .ok (.iconst 3, 1) := by decide +kernel
theorem dX3_init_138 : decode cX3_init 138 = .ok (.bipush 100, 2) := by decide +kernel
theorem dX3_init_140 : decode cX3_init 140 = .ok (.iastore, 1) := by decide +kernel
theorem dX3_init_141 : decode cX3_init 141 = .ok (.aload_n 0, 1) := by decide +kernel
theorem dX3_init_142 : decode cX3_init 142 = .ok (.getfield 42, 3) := by decide +kernel
theorem dX3_init_145 : decode cX3_init 145 = .ok (.iconst 4, 1) := by decide +kernel
theorem dX3_init_146 : decode cX3_init 146 = .ok (.iconst 5, 1) := by decide +kernel
theorem dX3_init_147 : decode cX3_init 147 = .ok (.iastore, 1) := by decide +kernel
theorem dX3_init_148 : decode cX3_init 148 = .ok (.aload_n 0, 1) := by decide +kernel
theorem dX3_init_149 : decode cX3_init 149 = .ok (.getfield 45, 3) := by decide +kernel
theorem dX3_init_152 : decode cX3_init 152 = .ok (.iconst 0, 1) := by decide +kernel
theorem dX3_init_153 : decode cX3_init 153 = .ok (.iconst 3, 1) := by decide +kernel
theorem dX3_init_154 : decode cX3_init 154 = .ok (.iastore, 1) := by decide +kernel
theorem dX3_init_155 : decode cX3_init 155 = .ok (.aload_n 0, 1) := by decide +kernel
theorem dX3_init_156 : decode cX3_init 156 = .ok (.getfield 45, 3) := by decide +kernel
theorem dX3_init_159 : decode cX3_init 159 = .ok (.iconst 1, 1) := by decide +kernel
theorem dX3_init_160 : decode cX3_init 160 = .ok (.iconst 1, 1) := by decide +kernel
theorem dX3_init_161 : decode cX3_init 161 = .ok (.iastore, 1) := by decide +kernel
theorem dX3_init_162 : decode cX3_init 162 = .ok (.aload_n 0, 1) := by decide +kernel
theorem dX3_init_163 : decode cX3_init 163 = .ok (.getfield 45, 3) := by decide +kernel
theorem dX3_init_166 : decode cX3_init 166 = .ok (.iconst 2, 1) := by decide +kernel
theorem dX3_init_167 : decode cX3_init 167 = .ok (.bipush 20, 2) := by decide +kernel
theorem dX3_init_169 : decode cX3_init 169 = .ok (.iastore, 1) := by decide +kernel
theorem dX3_init_170 : decode cX3_init 170 = .ok (.aload_n 0, 1) := by decide +kernel
theorem dX3_init_171 : decode cX3_init 171 = .ok (.getfield 45, 3) := by decide +kernel
theorem dX3_init_174 : decode cX3_init 174 = .ok (.iconst 3, 1) := by decide +kernel
theorem dX3_init_175 : decode cX3_init 175 = .ok (.iconst 5, 1) := by decide +kernel
theorem dX3_init_176 : decode cX3_init 176 = .ok (.iastore, 1) := by decide +kernel
theorem dX3_init_177 : decode cX3_init 177 = .ok (.return_, 1) := by decide +kernel
theorem dX3_copyFrom_0 : decode cX3_copyFrom 0 = .ok (.aload_n 0, 1) := by decide +kernel
theorem dX3_copyFrom_1 : decode cX3_copyFrom 1 = .ok (.aload_n 1, 1) := by decide +kernel
theorem dX3_copyFrom_2 : decode cX3_copyFrom 2 = .ok (.invokevirtual 48, 3) := by decide +kernel
theorem dX3_copyFrom_5 : decode cX3_copyFrom 5 = .ok (.aload_n 1, 1) := by decide +kernel
theorem dX3_copyFrom_6 : decode cX3_copyFrom 6 = .ok (.getfield 27, 3) := by decide +kernel
theorem dX3_copyFrom_9 : decode cX3_copyFrom 9 = .ok (.iconst 0, 1) := by decide +kernel
theorem dX3_copyFrom_10 : decode cX3_copyFrom 10 = .ok (.aload_n 0, 1) := by decide +kernel
theorem dX3_copyFrom_11 : decode cX3_copyFrom 11 = .ok (.getfield 27, 3) := by decide +kernel
theorem dX3_copyFrom_14 : decode cX3_copyFrom 14 = .ok (.iconst 0, 1) := by decide +kernel
theorem dX3_copyFrom_15 : decode cX3_copyFrom 15 = .ok (.bipush 12, 2) := by decide +kernel
theorem dX3_copyFrom_17 : decode cX3_copyFrom 17 = .ok (.invokestatic 52, 3) := by decide +kernel
theorem dX3_copyFrom_20 : decode cX3_copyFrom 20 = .ok (.aload_n 1, 1) := by decide +kernel
theorem dX3_copyFrom_21 : decode cX3_copyFrom 21 = .ok (.getfield 30, 3) := by decide +kernel
theorem dX3_copyFrom_24 : decode cX3_copyFrom 24 = .ok (.iconst 0, 1) := by decide +kernel
theorem dX3_copyFrom_25 : decode cX3_copyFrom 25 = .ok (.aload_n 0, 1) := by decide +kernel
theorem dX3_copyFrom_26 : decode cX3_copyFrom 26 = .ok (.getfield 30, 3) := by decide +kernel
theorem dX3_copyFrom_29 : decode cX3_copyFrom 29 = .ok (.iconst 0, 1) := by decide +kernel
theorem dX3_copyFrom_30 : decode cX3_copyFrom 30 = .ok (.bipush 12, 2) := by decide +kernel
theorem dX3_copyFrom_32 : decode cX3_copyFrom 32 = .ok (.invokestatic 52, 3) := by decide +kernel
theorem dX3_copyFrom_35 : decode cX3_copyFrom 35 = .ok (.aload_n 1, 1) := by decide +kernel
theorem dX3_copyFrom_36 : decode cX3_copyFrom 36 = .ok (.getfield 33, 3) := by decide +kernel
theorem dX3_copyFrom_39 : decode cX3_copyFrom 39 = .ok (.iconst 0, 1) := by decide +kernel
theorem dX3_copyFrom_40 : decode cX3_copyFrom 40 = .ok (.aload_n 0, 1) := by decide +kernel
theorem dX3_copyFrom_41 : decode cX3_copyFrom 41 = .ok (.getfield 33, 3) := by decide +kernel
theorem dX3_copyFrom_44 : decode cX3_copyFrom 44 = .ok (.iconst 0, 1) := by decide +kernel
theorem dX3_copyFrom_45 : decode cX3_copyFrom 45 = .ok (.bipush 12, 2) := by decide +kernel
theorem dX3_copyFrom_47 : decode cX3_copyFrom 47 = .ok (.invokestatic 52, 3) := by decide +kernel
theorem dX3_copyFrom_50 : decode cX3_copyFrom 50 = .ok (.aload_n 1, 1) := by decide +kernel
theorem dX3_copyFrom_51 : decode cX3_copyFrom 51 = .ok (.getfield 36, 3) := by decide +kernel
theorem dX3_copyFrom_54 : decode cX3_copyFrom 54 = .ok (.iconst 0, 1) := by decide +kernel
theorem dX3_copyFrom_55 : decode cX3_copyFrom 55 = .ok (.aload_n 0, 1) := by decide +kernel
theorem dX3_copyFrom_56 : decode cX3_copyFrom 56 = .ok (.getfield 36, 3) := by decide +kernel
theorem dX3_copyFrom_59 : decode cX3_copyFrom 59 = .ok (.iconst 0, 1) := by decide +kernel
theorem dX3_copyFrom_60 : decode cX3_copyFrom 60 = .ok (.bipush 60, 2) := by decide +kernel
theorem dX3_copyFrom_62 : decode cX3_copyFrom 62 = .ok (.invokestatic 52, 3) := by decide +kernel
theorem dX3_copyFrom_65 : decode cX3_copyFrom 65 = .ok (.aload_n 1, 1) := by decide +kernel
theorem dX3_copyFrom_66 : decode cX3_copyFrom 66 = .ok (.getfield 39, 3) := by decide +kernel
theorem dX3_copyFrom_69 : decode cX3_copyFrom 69 = .ok (.iconst 0, 1) := by decide +kernel
theorem dX3_copyFrom_70 : decode cX3_copyFrom 70 = .ok (.aload_n 0, 1) := by decide +kernel
theorem dX3_copyFrom_71 : decode cX3_copyFrom 71 = .ok (.getfield 39, 3) := by decide +kernel
theorem dX3_copyFrom_74 : decode cX3_copyFrom 74 = .ok (.iconst 0, 1) := by decide +kernel
theorem dX3_copyFrom_75 : decode cX3_copyFrom 75 = .ok (.iconst 5, 1) := by decide +kernel
theorem dX3_copyFrom_76 : decode cX3_copyFrom 76 = .ok (.invokestatic 52, 3) := by decide +kernel
theorem dX3_copyFrom_79 : decode cX3_copyFrom 79 = .ok (.aload_n 1, 1) := by decide +kernel
theorem dX3_copyFrom_80 : decode cX3_copyFrom 80 = .ok (.getfield 42, 3) := by decide +kernel
theorem dX3_copyFrom_83 : decode cX3_copyFrom 83 = .ok (.iconst 0, 1) := by decide +kernel
theorem dX3_copyFrom_84 : decode cX3_copyFrom 84 = .ok (.aload_n 0, 1) := by decide +kernel
theorem dX3_copyFrom_85 : decode cX3_copyFrom 85 = .ok (.getfield 42, 3) := by decide +kernel
theorem dX3_copyFrom_88 : decode cX3_copyFrom 88 = .ok (.iconst 0, 1) := by decide +kernel
theorem dX3_copyFrom_89 : decode cX3_copyFrom 89 = .ok (.iconst 5, 1) := by decide +kernel
theorem dX3_copyFrom_90 : decode cX3_copyFrom 90 = .ok (.invokestatic 52, 3) := by decide +kernel
theorem dX3_copyFrom_93 : decode cX3_copyFrom 93 = .ok (.aload_n 1, 1) := by decide +kernel
theorem dX3_copyFrom_94 : decode cX3_copyFrom 94 = .ok (.getfield 45, 3) := by decide +kernel
theorem dX3_copyFrom_97 : decode cX3_copyFrom 97 = .ok (.iconst 0, 1) := by decide +kernel
theorem dX3_copyFrom_98 : decode cX3_copyFrom 98 = .ok (.aload_n 0, 1) := by decide +kernel
theorem dX3_copyFrom_99 : decode cX3_copyFrom 99 = .ok (.getfield 45, 3) := by decide +kernel
theorem dX3_copyFrom_102 : decode cX3_copyFrom 102 = .ok (.iconst 0, 1) := by decide +kernel
theorem dX3_copyFrom_103 : decode cX3_copyFrom 103 = .ok (.iconst 4, 1) := by decide +kernel
theorem dX3_copyFrom_104 : decode cX3_copyFrom 104 = .ok (.invokestatic 52, 3) := by decide +kernel
theorem dX3_copyFrom_107 : decode cX3_copyFrom 107 = .ok (.return_, 1) := by decide +kernel
theorem dX3_takeSigns_0 : decode cX3_takeSigns 0 = .ok (.aload_n 1, 1) := by decide +kernel
theorem dX3_takeSigns_1 : decode cX3_takeSigns 1 = .ok (.getfield 9, 3) := by decide +kernel
theorem dX3_takeSigns_4 : decode cX3_takeSigns 4 = .ok (.iconst 0, 1) := by decide +kernel
theorem dX3_takeSigns_5 : decode cX3_takeSigns 5 = .ok (.aload_n 0, 1) := by decide +kernel
theorem dX3_takeSigns_6 : decode cX3_takeSigns 6 = .ok (.getfield 9, 3) := by decide +kernel
theorem dX3_takeSigns_9 : decode cX3_takeSigns 9 = .ok (.iconst 0, 1) := by decide +kernel
theorem dX3_takeSigns_10 : decode cX3_takeSigns 10 = .ok (.bipush 40, 2) := by decide +kernel
theorem dX3_takeSigns_12 : decode cX3_takeSigns 12 = .ok (.invokestatic 52, 3) := by decide +kernel
theorem dX3_takeSigns_15 : decode cX3_takeSigns 15 = .ok (.aload_n 1, 1) := by decide +kernel
theorem dX3_takeSigns_16 : decode cX3_takeSigns 16 = .ok (.getfield 15, 3) := by decide +kernel
theorem dX3_takeSigns_19 : decode cX3_takeSigns 19 = .ok (.iconst 0, 1) := by decide +kernel
theorem dX3_takeSigns_20 : decode cX3_takeSigns 20 = .ok (.aload_n 0, 1) := by decide +kernel
theorem dX3_takeSigns_21 : decode cX3_takeSigns 21 = .ok (.getfield 15, 3) := by decide +kernel
theorem dX3_takeSigns_24 : decode cX3_takeSigns 24 = .ok (.iconst 0, 1) := by decide +kernel
theorem dX3_takeSigns_25 : decode cX3_takeSigns 25 = .ok (.bipush 40, 2) := by decide +kernel
theorem dX3_takeSigns_27 : decode cX3_takeSigns 27 = .ok (.invokestatic 52, 3) := by decide +kernel
theorem dX3_takeSigns_30 : decode cX3_takeSigns 30 = .ok (.aload_n 1, 1) := by decide +kernel
theorem dX3_takeSigns_31 : decode cX3_takeSigns 31 = .ok (.getfield 18, 3) := by decide +kernel
theorem dX3_takeSigns_34 : decode cX3_takeSigns 34 = .ok (.iconst 0, 1) := by decide +kernel
theorem dX3_takeSigns_35 : decode cX3_takeSigns 35 = .ok (.aload_n 0, 1) := by decide +kernel
theorem dX3_takeSigns_36 : decode cX3_takeSigns 36 = .ok (.getfield 18, 3) := by decide +kernel
theorem dX3_takeSigns_39 : decode cX3_takeSigns 39 = .ok (.iconst 0, 1) := by decide +kernel
theorem dX3_takeSigns_40 : decode cX3_takeSigns 40 = .ok (.bipush 40, 2) := by decide +kernel
theorem dX3_takeSigns_42 : decode cX3_takeSigns 42 = .ok (.invokestatic 52, 3) := by decide +kernel
theorem dX3_takeSigns_45 : decode cX3_takeSigns 45 = .ok (.aload_n 1, 1) := by decide +kernel
theorem dX3_takeSigns_46 : decode cX3_takeSigns 46 = .ok (.getfield 21, 3) := by decide +kernel
theorem dX3_takeSigns_49 : decode cX3_takeSigns 49 = .ok (.iconst 0, 1) := by decide +kernel
theorem dX3_takeSigns_50 : decode cX3_takeSigns 50 = .ok (.aload_n 0, 1) := by decide +kernel
theorem dX3_takeSigns_51 : decode cX3_takeSigns 51 = .ok (.getfield 21, 3) := by decide +kernel
theorem dX3_takeSigns_54 : decode cX3_takeSigns 54 = .ok (.iconst 0, 1) := by decide +kernel
theorem dX3_takeSigns_55 : decode cX3_takeSigns 55 = .ok (.bipush 40, 2) := by decide +kernel
theorem dX3_takeSigns_57 : decode cX3_takeSigns 57 = .ok (.invokestatic 52, 3) := by decide +kernel
theorem dX3_takeSigns_60 : decode cX3_takeSigns 60 = .ok (.aload_n 1, 1) := by decide +kernel
theorem dX3_takeSigns_61 : decode cX3_takeSigns 61 = .ok (.getfield 24, 3) := by decide +kernel
theorem dX3_takeSigns_64 : decode cX3_takeSigns 64 = .ok (.iconst 0, 1) := by decide +kernel
theorem dX3_takeSigns_65 : decode cX3_takeSigns 65 = .ok (.aload_n 0, 1) := by decide +kernel
theorem dX3_takeSigns_66 : decode cX3_takeSigns 66 = .ok (.getfield 24, 3) := by decide +kernel
theorem dX3_takeSigns_69 : decode cX3_takeSigns 69 = .ok (.iconst 0, 1) := by decide +kernel
theorem dX3_takeSigns_70 : decode cX3_takeSigns 70 = .ok (.bipush 40, 2) := by decide +kernel
theorem dX3_takeSigns_72 : decode cX3_takeSigns 72 = .ok (.invokestatic 52, 3) := by decide +kernel
theorem dX3_takeSigns_75 : decode cX3_takeSigns 75 = .ok (.aload_n 0, 1) := by decide +kernel
theorem dX3_takeSigns_76 : decode cX3_takeSigns 76 = .ok (.aload_n 1, 1) := by decide +kernel
theorem dX3_takeSigns_77 : decode cX3_takeSigns 77 = .ok (.getfield 58, 3) := by decide +kernel
theorem dX3_takeSigns_80 : decode cX3_takeSigns 80 = .ok (.putfield 58, 3) := by decide +kernel
theorem dX3_takeSigns_83 : decode cX3_takeSigns 83 = .ok (.return_, 1) := by decide +kernel
theorem dX3_putSign_0 : decode cX3_putSign 0 = .ok (.aload_n 0, 1) := by decide +kernel
theorem dX3_putSign_1 : decode cX3_putSign 1 = .ok (.getfield 58, 3) := by decide +kernel
theorem dX3_putSign_4 : decode cX3_putSign 4 = .ok (.ifCond .lt 12, 3) := by decide +kernel
theorem dX3_putSign_7 : decode cX3_putSign 7 = .ok (.aload_n 0, 1) := by decide +kernel
theorem dX3_putSign_8 : decode cX3_putSign 8 = .ok (.getfield 58, 3) := by decide +kernel
theorem dX3_putSign_11 : decode cX3_putSign 11 = .ok (.bipush 40, 2) := by decide +kernel
theorem dX3_putSign_13 : decode cX3_putSign 13 = .ok (.if_icmp .lt 4, 3) := by decide +kernel
theorem dX3_putSign_16 : decode cX3_putSign 16 = .ok (.return_, 1) := by decide +kernel
theorem dX3_putSign_17 : decode cX3_putSign 17 = .ok (.aload_n 0, 1) := by decide +kernel
theorem dX3_putSign_18 : decode cX3_putSign 18 = .ok (.getfield 9, 3) := by decide +kernel
theorem dX3_putSign_21 : decode cX3_putSign 21 = .ok (.aload_n 0, 1) := by decide +kernel
theorem dX3_putSign_22 : decode cX3_putSign 22 = .ok (.getfield 58, 3) := by decide +kernel
theorem dX3_putSign_25 : decode cX3_putSign 25 = .ok (.iload_n 1, 1) := by decide +kernel
theorem dX3_putSign_26 : decode cX3_putSign 26 = .ok (.iastore, 1) := by decide +kernel
theorem dX3_putSign_27 : decode cX3_putSign 27 = .ok (.aload_n 0, 1) := by decide +kernel
theorem dX3_putSign_28 : decode cX3_putSign 28 = .ok (.getfield 15, 3) := by decide +kernel
theorem dX3_putSign_31 : decode cX3_putSign 31 = .ok (.aload_n 0, 1) := by decide +kernel
theorem dX3_putSign_32 : decode cX3_putSign 32 = .ok (.getfield 58, 3) := by decide +kernel
theorem dX3_putSign_35 : decode cX3_putSign 35 = .ok (.iload_n 2, 1) := by decide +kernel
theorem dX3_putSign_36 : decode cX3_putSign 36 = .ok (.iastore, 1) := by decide +kernel
theorem dX3_putSign_37 : decode cX3_putSign 37 = .ok (.aload_n 0, 1) := by decide +kernel
theorem dX3_putSign_38 : decode cX3_putSign 38 = .ok (.getfield 18, 3) := by decide +kernel
theorem dX3_putSign_41 : decode cX3_putSign 41 = .ok (.aload_n 0, 1) := by decide +kernel
theorem dX3_putSign_42 : decode cX3_putSign 42 = .ok (.getfield 58, 3) := by decide +kernel
theorem dX3_putSign_45 : decode cX3_putSign 45 = .ok (.iload_n 3, 1) := by decide +kernel
theorem dX3_putSign_46 : decode cX3_putSign 46 = .ok (.iastore, 1) := by decide +kernel
theorem dX3_putSign_47 : decode cX3_putSign 47 = .ok (.aload_n 0, 1) := by decide +kernel
theorem dX3_putSign_48 : decode cX3_putSign 48 = .ok (.getfield 21, 3) := by decide +kernel
theorem dX3_putSign_51 : decode cX3_putSign 51 = .ok (.aload_n 0, 1) := by decide +kernel
theorem dX3_putSign_52 : decode cX3_putSign 52 = .ok (.getfield 58, 3) := by decide +kernel
theorem dX3_putSign_55 : decode cX3_putSign 55 = .ok (.iload 4, 2) := by decide +kernel
theorem dX3_putSign_57 : decode cX3_putSign 57 = .ok (.iastore, 1) := by decide +kernel
theorem dX3_putSign_58 : decode cX3_putSign 58 = .ok (.aload_n 0, 1) := by decide +kernel
theorem dX3_putSign_59 : decode cX3_putSign 59 = .ok (.getfield 24, 3) := by decide +kernel
theorem dX3_putSign_62 : decode cX3_putSign 62 = .ok (.aload_n 0, 1) := by decide +kernel
theorem dX3_putSign_63 : decode cX3_putSign 63 = .ok (.getfield 58, 3) := by decide +kernel
theorem dX3_putSign_66 : decode cX3_putSign 66 = .ok (.iload 5, 2) := by decide +kernel
theorem dX3_putSign_68 : decode cX3_putSign 68 = .ok (.iastore, 1) := by decide +kernel
theorem dX3_putSign_69 : decode cX3_putSign 69 = .ok (.aload_n 0, 1) := by decide +kernel
theorem dX3_putSign_70 : decode cX3_putSign 70 = .ok (.dup, 1) := by decide +kernel
theorem dX3_putSign_71 : decode cX3_putSign 71 = .ok (.getfield 58, 3) := by decide +kernel
theorem dX3_putSign_74 : decode cX3_putSign 74 = .ok (.iconst 1, 1) := by decide +kernel
theorem dX3_putSign_75 : decode cX3_putSign 75 = .ok (.iadd, 1) := by decide +kernel
theorem dX3_putSign_76 : decode cX3_putSign 76 = .ok (.putfield 58, 3) := by decide +kernel
theorem dX3_putSign_79 : decode cX3_putSign 79 = .ok (.return_, 1) := by decide +kernel
theorem dX3_dropSign_0 : decode cX3_dropSign 0 = .ok (.iload_n 1, 1) := by decide +kernel
theorem dX3_dropSign_1 : decode cX3_dropSign 1 = .ok (.ifCond .lt 11, 3) := by decide +kernel
theorem dX3_dropSign_4 : decode cX3_dropSign 4 = .ok (.iload_n 1, 1) := by decide +kernel
theorem dX3_dropSign_5 : decode cX3_dropSign 5 = .ok (.aload_n 0, 1) := by decide +kernel
theorem dX3_dropSign_6 : decode cX3_dropSign 6 = .ok (.getfield 58, 3) := by decide +kernel
theorem dX3_dropSign_9 : decode cX3_dropSign 9 = .ok (.if_icmp .lt 4, 3) := by decide +kernel
theorem dX3_dropSign_12 : decode cX3_dropSign 12 = .ok (.return_, 1) := by decide +kernel
theorem dX3_dropSign_13 : decode cX3_dropSign 13 = .ok (.iload_n 1, 1) := by decide +kernel
theorem dX3_dropSign_14 : decode cX3_dropSign 14 = .ok (.istore_n 2, 1) := by decide +kernel
theorem dX3_dropSign_15 : decode cX3_dropSign 15 = .ok (.iload_n 2, 1) := by decide +kernel
theorem dX3_dropSign_16 : decode cX3_dropSign 16 = .ok (.iconst 1, 1) := by decide +kernel
theorem dX3_dropSign_17 : decode cX3_dropSign 17 = .ok (.iadd, 1) := by decide +kernel
theorem dX3_dropSign_18 : decode cX3_dropSign 18 = .ok (.aload_n 0, 1) := by decide +kernel
theorem dX3_dropSign_19 : decode cX3_dropSign 19 = .ok (.getfield 58, 3) := by decide +kernel
theorem dX3_dropSign_22 : decode cX3_dropSign 22 = .ok (.if_icmp .ge 79, 3) := by decide +kernel
theorem dX3_dropSign_25 : decode cX3_dropSign 25 = .ok (.aload_n 0, 1) := by decide +kernel
theorem dX3_dropSign_26 : decode cX3_dropSign 26 = .ok (.getfield 9, 3) := by decide +kernel
theorem dX3_dropSign_29 : decode cX3_dropSign 29 = .ok (.iload_n 2, 1) := by decide +kernel
theorem dX3_dropSign_30 : decode cX3_dropSign 30 = .ok (.aload_n 0, 1) := by decide +kernel
theorem dX3_dropSign_31 : decode cX3_dropSign 31 = .ok (.getfield 9, 3) := by decide +kernel
theorem dX3_dropSign_34 : decode cX3_dropSign 34 = .ok (.iload_n 2, 1) := by decide +kernel
theorem dX3_dropSign_35 : decode cX3_dropSign 35 = .ok (.iconst 1, 1) := by decide +kernel
theorem dX3_dropSign_36 : decode cX3_dropSign 36 = .ok (.iadd, 1) := by decide +kernel
theorem dX3_dropSign_37 : decode cX3_dropSign 37 = .ok (.iaload, 1) := by decide +kernel
theorem dX3_dropSign_38 : decode cX3_dropSign 38 = .ok (.iastore, 1) := by decide +kernel
theorem dX3_dropSign_39 : decode cX3_dropSign 39 = .ok (.aload_n 0, 1) := by decide +kernel
theorem dX3_dropSign_40 : decode cX3_dropSign 40 = .ok (.getfield 15, 3) := by decide +kernel
theorem dX3_dropSign_43 : decode cX3_dropSign 43 = .ok (.iload_n 2, 1) := by decide +kernel
theorem dX3_dropSign_44 : decode cX3_dropSign 44 = .ok (.aload_n 0, 1) := by decide +kernel
theorem dX3_dropSign_45 : decode cX3_dropSign 45 = .ok (.getfield 15, 3) := by decide +kernel
theorem dX3_dropSign_48 : decode cX3_dropSign 48 = .ok (.iload_n 2, 1) := by decide +kernel
theorem dX3_dropSign_49 : decode cX3_dropSign 49 = .ok (.iconst 1, 1) := by decide +kernel
theorem dX3_dropSign_50 : decode cX3_dropSign 50 = .ok (.iadd, 1) := by decide +kernel
theorem dX3_dropSign_51 : decode cX3_dropSign 51 = .ok (.iaload, 1) := by decide +kernel
theorem dX3_dropSign_52 : decode cX3_dropSign 52 = .ok (.iastore, 1) := by decide +kernel
theorem dX3_dropSign_53 : decode cX3_dropSign 53 = .ok (.aload_n 0, 1) := by decide +kernel
theorem dX3_dropSign_54 : decode cX3_dropSign 54 = .ok (.getfield 18, 3) := by decide +kernel
theorem dX3_dropSign_57 : decode cX3_dropSign 57 = .ok (.iload_n 2, 1) := by decide +kernel
theorem dX3_dropSign_58 : decode cX3_dropSign 58 = .ok (.aload_n 0, 1) := by decide +kernel
theorem dX3_dropSign_59 : decode cX3_dropSign 59 = .ok (.getfield 18, 3) := by decide +kernel
theorem dX3_dropSign_62 : decode cX3_dropSign 62 = .ok (.iload_n 2, 1) := by decide +kernel
theorem dX3_dropSign_63 : decode cX3_dropSign 63 = .ok (.iconst 1, 1) := by decide +kernel
theorem dX3_dropSign_64 : decode cX3_dropSign 64 = .ok (.iadd, 1) := by decide +kernel
theorem dX3_dropSign_65 : decode cX3_dropSign 65 = .ok (.iaload, 1) := by decide +kernel
theorem dX3_dropSign_66 : decode cX3_dropSign 66 = .ok (.iastore, 1) := by decide +kernel
theorem dX3_dropSign_67 : decode cX3_dropSign 67 = .ok (.aload_n 0, 1) := by decide +kernel
theorem dX3_dropSign_68 : decode cX3_dropSign 68 = .ok (.getfield 21, 3) := by decide +kernel
theorem dX3_dropSign_71 : decode cX3_dropSign 71 = .ok (.iload_n 2, 1) := by decide +kernel
theorem dX3_dropSign_72 : decode cX3_dropSign 72 = .ok (.aload_n 0, 1) := by decide +kernel
theorem dX3_dropSign_73 : decode cX3_dropSign 73 = .ok (.getfield 21, 3) := by decide +kernel
theorem dX3_dropSign_76 : decode cX3_dropSign 76 = .ok (.iload_n 2, 1) := by decide +kernel
theorem dX3_dropSign_77 : decode cX3_dropSign 77 = .ok (.iconst 1, 1) := by decide +kernel
theorem dX3_dropSign_78 : decode cX3_dropSign 78 = .ok (.iadd, 1) := by decide +kernel
theorem dX3_dropSign_79 : decode cX3_dropSign 79 = .ok (.iaload, 1) := by decide +kernel
theorem dX3_dropSign_80 : decode cX3_dropSign 80 = .ok (.iastore, 1) := by decide +kernel
theorem dX3_dropSign_81 : decode cX3_dropSign 81 = .ok (.aload_n 0, 1) := by decide +kernel
theorem dX3_dropSign_82 : decode cX3_dropSign 82 = .ok (.getfield 24, 3) := by decide +kernel
theorem dX3_dropSign_85 : decode cX3_dropSign 85 = .ok (.iload_n 2, 1) := by decide +kernel
theorem dX3_dropSign_86 : decode cX3_dropSign 86 = .ok (.aload_n 0, 1) := by decide +kernel
theorem dX3_dropSign_87 : decode cX3_dropSign 87 = .ok (.getfield 24, 3) := by decide +kernel
theorem dX3_dropSign_90 : decode cX3_dropSign 90 = .ok (.iload_n 2, 1) := by decide +kernel
theorem dX3_dropSign_91 : decode cX3_dropSign 91 = .ok (.iconst 1, 1) := by decide +kernel
theorem dX3_dropSign_92 : decode cX3_dropSign 92 = .ok (.iadd, 1) := by decide +kernel
theorem dX3_dropSign_93 : decode cX3_dropSign 93 = .ok (.iaload, 1) := by decide +kernel
theorem dX3_dropSign_94 : decode cX3_dropSign 94 = .ok (.iastore, 1) := by decide +kernel
theorem dX3_dropSign_95 : decode cX3_dropSign 95 = .ok (.iinc 2 1, 3) := by decide +kernel
theorem dX3_dropSign_98 : decode cX3_dropSign 98 = .ok (.goto (-83), 3) := by decide +kernel
theorem dX3_dropSign_101 : decode cX3_dropSign 101 = .ok (.aload_n 0, 1) := by decide +kernel
theorem dX3_dropSign_102 : decode cX3_dropSign 102 = .ok (.dup, 1) := by decide +kernel
theorem dX3_dropSign_103 : decode cX3_dropSign 103 = .ok (.getfield 58, 3) := by decide +kernel
theorem dX3_dropSign_106 : decode cX3_dropSign 106 = .ok (.iconst 1, 1) := by decide +kernel
theorem dX3_dropSign_107 : decode cX3_dropSign 107 = .ok (.isub, 1) := by decide +kernel
theorem dX3_dropSign_108 : decode cX3_dropSign 108 = .ok (.putfield 58, 3) := by decide +kernel
theorem dX3_dropSign_111 : decode cX3_dropSign 111 = .ok (.return_, 1) := by decide +kernel
theorem dX3_isInWindow_0 : decode cX3_isInWindow 0 = .ok (.aload_n 0, 1) := by decide +kernel
theorem dX3_isInWindow_1 : decode cX3_isInWindow 1 = .ok (.getfield 15, 3) := by decide +kernel
theorem dX3_isInWindow_4 : decode cX3_isInWindow 4 = .ok (.iload_n 1, 1) := by decide +kernel
theorem dX3_isInWindow_5 : decode cX3_isInWindow 5 = .ok (.iaload, 1) := by decide +kernel
theorem dX3_isInWindow_6 : decode cX3_isInWindow 6 = .ok (.aload_n 0, 1) := by decide +kernel
theorem dX3_isInWindow_7 : decode cX3_isInWindow 7 = .ok (.getfield 42, 3) := by decide +kernel
theorem dX3_isInWindow_10 : decode cX3_isInWindow 10 = .ok (.iconst 0, 1) := by decide +kernel
theorem dX3_isInWindow_11 : decode cX3_isInWindow 11 = .ok (.iaload, 1) := by decide +kernel
theorem dX3_isInWindow_12 : decode cX3_isInWindow 12 = .ok (.isub, 1) := by decide +kernel
theorem dX3_isInWindow_13 : decode cX3_isInWindow 13 = .ok (.istore_n 2, 1) := by decide +kernel
theorem dX3_isInWindow_14 : decode cX3_isInWindow 14 = .ok (.aload_n 0, 1) := by decide +kernel
theorem dX3_isInWindow_15 : decode cX3_isInWindow 15 = .ok (.getfield 18, 3) := by decide +kernel
theorem dX3_isInWindow_18 : decode cX3_isInWindow 18 = .ok (.iload_n 1, 1) := by decide +kernel
theorem dX3_isInWindow_19 : decode cX3_isInWindow 19 = .ok (.iaload, 1) := by decide +kernel
theorem dX3_isInWindow_20 : decode cX3_isInWindow 20 = .ok (.aload_n 0, 1) := by decide +kernel
theorem dX3_isInWindow_21 : decode cX3_isInWindow 21 = .ok (.getfield 42, 3) := by decide +kernel
theorem dX3_isInWindow_24 : decode cX3_isInWindow 24 = .ok (.iconst 1, 1) := by decide +kernel
theorem dX3_isInWindow_25 : decode cX3_isInWindow 25 = .ok (.iaload, 1) := by decide +kernel
theorem dX3_isInWindow_26 : decode cX3_isInWindow 26 = .ok (.isub, 1) := by decide +kernel
theorem dX3_isInWindow_27 : decode cX3_isInWindow 27 = .ok (.istore_n 3, 1) := by decide +kernel
theorem dX3_isInWindow_28 : decode cX3_isInWindow 28 = .ok (.iload_n 2, 1) := by decide +kernel
theorem dX3_isInWindow_29 : decode cX3_isInWindow 29 = .ok (.ifCond .lt 31, 3) := by decide +kernel
theorem dX3_isInWindow_32 : decode cX3_isInWindow 32 = .ok (.iload_n 2, 1) := by decide +kernel
theorem dX3_isInWindow_33 : decode cX3_isInWindow 33 = .ok (.aload_n 0, 1) := by decide +kernel
theorem dX3_isInWindow_34 : decode cX3_isInWindow 34 = .ok (.getfield 42, 3) := by decide +kernel
theorem dX3_isInWindow_37 : decode cX3_isInWindow 37 = .ok (.iconst 2, 1) := by decide +kernel
theorem dX3_isInWindow_38 : decode cX3_isInWindow 38 = .ok (.iaload, 1) := by decide +kernel
theorem dX3_isInWindow_39 : decode cX3_isInWindow 39 = .ok (.if_icmp .ge 21, 3) := by decide +kernel
theorem dX3_isInWindow_42 : decode cX3_isInWindow 42 = .ok (.iload_n 3, 1) := by decide +kernel
theorem dX3_isInWindow_43 : decode cX3_isInWindow 43 = .ok (.ifCond .lt 17, 3) := by decide +kernel
theorem dX3_isInWindow_46 : decode cX3_isInWindow 46 = .ok (.iload_n 3, 1) := by decide +kernel
theorem dX3_isInWindow_47 : decode cX3_isInWindow 47 = .ok (.aload_n 0, 1) := by decide +kernel
theorem dX3_isInWindow_48 : decode cX3_isInWindow 48 = .ok (.getfield 42, 3) := by decide +kernel
theorem dX3_isInWindow_51 : decode cX3_isInWindow 51 = .ok (.iconst 3, 1) := by decide +kernel
theorem dX3_isInWindow_52 : decode cX3_isInWindow 52 = .ok (.iaload, 1) := by decide +kernel
theorem dX3_isInWindow_53 : decode cX3_isInWindow 53 = .ok (.if_icmp .ge 7, 3) := by decide +kernel
theorem dX3_isInWindow_56 : decode cX3_isInWindow 56 = .ok (.iconst 1, 1) := by decide +kernel
theorem dX3_isInWindow_57 : decode cX3_isInWindow 57 = .ok (.goto 4, 3) := by decide +kernel
theorem dX3_isInWindow_60 : decode cX3_isInWindow 60 = .ok (.iconst 0, 1) := by decide +kernel
theorem dX3_isInWindow_61 : decode cX3_isInWindow 61 = .ok (.ireturn, 1) := by decide +kernel
theorem dX3_isShown_0 : decode cX3_isShown 0 = .ok (.aload_n 0, 1) := by decide +kernel
theorem dX3_isShown_1 : decode cX3_isShown 1 = .ok (.getfield 24, 3) := by decide +kernel
theorem dX3_isShown_4 : decode cX3_isShown 4 = .ok (.iload_n 1, 1) := by decide +kernel
theorem dX3_isShown_5 : decode cX3_isShown 5 = .ok (.iaload, 1) := by decide +kernel
theorem dX3_isShown_6 : decode cX3_isShown 6 = .ok (.aload_n 0, 1) := by decide +kernel
theorem dX3_isShown_7 : decode cX3_isShown 7 = .ok (.getfield 42, 3) := by decide +kernel
theorem dX3_isShown_10 : decode cX3_isShown 10 = .ok (.iconst 4, 1) := by decide +kernel
theorem dX3_isShown_11 : decode cX3_isShown 11 = .ok (.iaload, 1) := by decide +kernel
theorem dX3_isShown_12 : decode cX3_isShown 12 = .ok (.if_icmp .gt 15, 3) := by decide +kernel
theorem dX3_isShown_15 : decode cX3_isShown 15 = .ok (.aload_n 0, 1) := by decide +kernel
theorem dX3_isShown_16 : decode cX3_isShown 16 = .ok (.iload_n 1, 1) := by decide +kernel
theorem dX3_isShown_17 : decode cX3_isShown 17 = .ok (.invokevirtual 62, 3) := by decide +kernel
theorem dX3_isShown_20 : decode cX3_isShown 20 = .ok (.ifCond .eq 7, 3) := by decide +kernel
theorem dX3_isShown_23 : decode cX3_isShown 23 = .ok (.iconst 1, 1) := by decide +kernel
theorem dX3_isShown_24 : decode cX3_isShown 24 = .ok (.goto 4, 3) := by decide +kernel
theorem dX3_isShown_27 : decode cX3_isShown 27 = .ok (.iconst 0, 1) := by decide +kernel
theorem dX3_isShown_28 : decode cX3_isShown 28 = .ok (.ireturn, 1) := by decide +kernel
theorem dX3_countShown_0 : decode cX3_countShown 0 = .ok (.iconst 0, 1) := by decide +kernel
theorem dX3_countShown_1 : decode cX3_countShown 1 = .ok (.istore_n 1, 1) := by decide +kernel
theorem dX3_countShown_2 : decode cX3_countShown 2 = .ok (.iconst 0, 1) := by decide +kernel
theorem dX3_countShown_3 : decode cX3_countShown 3 = .ok (.istore_n 2, 1) := by decide +kernel
theorem dX3_countShown_4 : decode cX3_countShown 4 = .ok (.iload_n 2, 1) := by decide +kernel
theorem dX3_countShown_5 : decode cX3_countShown 5 = .ok (.aload_n 0, 1) := by decide +kernel
theorem dX3_countShown_6 : decode cX3_countShown 6 = .ok (.getfield 58, 3) := by decide +kernel
theorem dX3_countShown_9 : decode cX3_countShown 9 = .ok (.if_icmp .ge 20, 3) := by decide +kernel
theorem dX3_countShown_12 : decode cX3_countShown 12 = .ok (.aload_n 0, 1) := by decide +kernel
theorem dX3_countShown_13 : decode cX3_countShown 13 = .ok (.iload_n 2, 1) := by decide +kernel
theorem dX3_countShown_14 : decode cX3_countShown 14 = .ok (.invokevirtual 66, 3) := by decide +kernel
theorem dX3_countShown_17 : decode cX3_countShown 17 = .ok (.ifCond .eq 6, 3) := by decide +kernel
theorem dX3_countShown_20 : decode cX3_countShown 20 = .ok (.iinc 1 1, 3) := by decide +kernel
theorem dX3_countShown_23 : decode cX3_countShown 23 = .ok (.iinc 2 1, 3) := by decide +kernel
theorem dX3_countShown_26 : decode cX3_countShown 26 = .ok (.goto (-22), 3) := by decide +kernel
theorem dX3_countShown_29 : decode cX3_countShown 29 = .ok (.iload_n 1, 1) := by decide +kernel
theorem dX3_countShown_30 : decode cX3_countShown 30 = .ok (.ireturn, 1) := by decide +kernel
theorem dX3_classOf_0 : decode cX3_classOf 0 = .ok (.aload_n 0, 1) := by decide +kernel
theorem dX3_classOf_1 : decode cX3_classOf 1 = .ok (.getfield 9, 3) := by decide +kernel
theorem dX3_classOf_4 : decode cX3_classOf 4 = .ok (.iload_n 1, 1) := by decide +kernel
theorem dX3_classOf_5 : decode cX3_classOf 5 = .ok (.iaload, 1) := by decide +kernel
theorem dX3_classOf_6 : decode cX3_classOf 6 = .ok (.istore_n 2, 1) := by decide +kernel
theorem dX3_classOf_7 : decode cX3_classOf 7 = .ok (.iconst 0, 1) := by decide +kernel
theorem dX3_classOf_8 : decode cX3_classOf 8 = .ok (.istore_n 3, 1) := by decide +kernel
theorem dX3_classOf_9 : decode cX3_classOf 9 = .ok (.iconst 0, 1) := by decide +kernel
theorem dX3_classOf_10 : decode cX3_classOf 10 = .ok (.istore 4, 2) := by decide +kernel
theorem dX3_classOf_12 : decode cX3_classOf 12 = .ok (.iload 4, 2) := by decide +kernel
theorem dX3_classOf_14 : decode cX3_classOf 14 = .ok (.aload_n 0, 1) := by decide +kernel
theorem dX3_classOf_15 : decode cX3_classOf 15 = .ok (.getfield 33, 3) := by decide +kernel
theorem dX3_classOf_18 : decode cX3_classOf 18 = .ok (.iload_n 2, 1) := by decide +kernel
theorem dX3_classOf_19 : decode cX3_classOf 19 = .ok (.iaload, 1) := by decide +kernel
theorem dX3_classOf_20 : decode cX3_classOf 20 = .ok (.if_icmp .ge 32, 3) := by decide +kernel
theorem dX3_classOf_23 : decode cX3_classOf 23 = .ok (.aload_n 0, 1) := by decide +kernel
theorem dX3_classOf_24 : decode cX3_classOf 24 = .ok (.getfield 36, 3) := by decide +kernel
theorem dX3_classOf_27 : decode cX3_classOf 27 = .ok (.iload_n 2, 1) := by decide +kernel
theorem dX3_classOf_28 : decode cX3_classOf 28 = .ok (.iconst 5, 1) := by decide +kernel
theorem dX3_classOf_29 : decode cX3_classOf 29 = .ok (.imul, 1) := by decide +kernel
theorem dX3_classOf_30 : decode cX3_classOf 30 = .ok (.iload 4, 2) := by decide +kernel
theorem dX3_classOf_32 : decode cX3_classOf 32 = .ok (.iadd, 1) := by decide +kernel
theorem dX3_classOf_33 : decode cX3_classOf 33 = .ok (.iaload, 1) := by decide +kernel
theorem dX3_classOf_34 : decode cX3_classOf 34 = .ok (.aload_n 0, 1) := by decide +kernel
theorem dX3_classOf_35 : decode cX3_classOf 35 = .ok (.getfield 21, 3) := by decide +kernel
theorem dX3_classOf_38 : decode cX3_classOf 38 = .ok (.iload_n 1, 1) := by decide +kernel
theorem dX3_classOf_39 : decode cX3_classOf 39 = .ok (.iaload, 1) := by decide +kernel
theorem dX3_classOf_40 : decode cX3_classOf 40 = .ok (.if_icmp .gt 6, 3) := by decide +kernel
theorem dX3_classOf_43 : decode cX3_classOf 43 = .ok (.iinc 3 1, 3) := by decide +kernel
theorem dX3_classOf_46 : decode cX3_classOf 46 = .ok (.iinc 4 1, 3) := by decide +kernel
theorem dX3_classOf_49 : decode cX3_classOf 49 = .ok (.goto (-37), 3) := by decide +kernel
theorem dX3_classOf_52 : decode cX3_classOf 52 = .ok (.iload_n 3, 1) := by decide +kernel
theorem dX3_classOf_53 : decode cX3_classOf 53 = .ok (.ireturn, 1) := by decide +kernel
theorem dX3_limitAt_0 : decode cX3_limitAt 0 = .ok (.iload_n 2, 1) := by decide +kernel
theorem dX3_limitAt_1 : decode cX3_limitAt 1 = .ok (.ifCond .lt 26, 3) := by decide +kernel
theorem dX3_limitAt_4 : decode cX3_limitAt 4 = .ok (.iload_n 2, 1) := by decide +kernel
theorem dX3_limitAt_5 : decode cX3_limitAt 5 = .ok (.aload_n 0, 1) := by decide +kernel
theorem dX3_limitAt_6 : decode cX3_limitAt 6 = .ok (.getfield 33, 3) := by decide +kernel
theorem dX3_limitAt_9 : decode cX3_limitAt 9 = .ok (.iload_n 1, 1) := by decide +kernel
theorem dX3_limitAt_10 : decode cX3_limitAt 10 = .ok (.iaload, 1) := by decide +kernel
theorem dX3_limitAt_11 : decode cX3_limitAt 11 = .ok (.if_icmp .ge 16, 3) := by decide +kernel
theorem dX3_limitAt_14 : decode cX3_limitAt 14 = .ok (.aload_n 0, 1) := by decide +kernel
theorem dX3_limitAt_15 : decode cX3_limitAt 15 = .ok (.getfield 36, 3) := by decide +kernel
theorem dX3_limitAt_18 : decode cX3_limitAt 18 = .ok (.iload_n 1, 1) := by decide +kernel
theorem dX3_limitAt_19 : decode cX3_limitAt 19 = .ok (.iconst 5, 1) := by decide +kernel
theorem dX3_limitAt_20 : decode cX3_limitAt 20 = .ok (.imul, 1) := by decide +kernel
theorem dX3_limitAt_21 : decode cX3_limitAt 21 = .ok (.iload_n 2, 1) := by decide +kernel
theorem dX3_limitAt_22 : decode cX3_limitAt 22 = .ok (.iadd, 1) := by decide +kernel
theorem dX3_limitAt_23 : decode cX3_limitAt 23 = .ok (.iaload, 1) := by decide +kernel
theorem dX3_limitAt_24 : decode cX3_limitAt 24 = .ok (.goto 4, 3) := by decide +kernel
theorem dX3_limitAt_27 : decode cX3_limitAt 27 = .ok (.iconst (-1), 1) := by decide +kernel
theorem dX3_limitAt_28 : decode cX3_limitAt 28 = .ok (.ireturn, 1) := by decide +kernel
theorem dX3_hasLimit_0 : decode cX3_hasLimit 0 = .ok (.iconst 0, 1) := by decide +kernel
theorem dX3_hasLimit_1 : decode cX3_hasLimit 1 = .ok (.istore_n 3, 1) := by decide +kernel
theorem dX3_hasLimit_2 : decode cX3_hasLimit 2 = .ok (.iload_n 3, 1) := by decide +kernel
theorem dX3_hasLimit_3 : decode cX3_hasLimit 3 = .ok (.aload_n 0, 1) := by decide +kernel
theorem dX3_hasLimit_4 : decode cX3_hasLimit 4 = .ok (.getfield 33, 3) := by decide +kernel
theorem dX3_hasLimit_7 : decode cX3_hasLimit 7 = .ok (.iload_n 1, 1) := by decide +kernel
theorem dX3_hasLimit_8 : decode cX3_hasLimit 8 = .ok (.iaload, 1) := by decide +kernel
theorem dX3_hasLimit_9 : decode cX3_hasLimit 9 = .ok (.if_icmp .ge 25, 3) := by decide +kernel
theorem dX3_hasLimit_12 : decode cX3_hasLimit 12 = .ok (.aload_n 0, 1) := by decide +kernel
theorem dX3_hasLimit_13 : decode cX3_hasLimit 13 = .ok (.getfield 36, 3) := by decide +kernel
theorem dX3_hasLimit_16 : decode cX3_hasLimit 16 = .ok (.iload_n 1, 1) := by decide +kernel
theorem dX3_hasLimit_17 : decode cX3_hasLimit 17 = .ok (.iconst 5, 1) := by decide +kernel
theorem dX3_hasLimit_18 : decode cX3_hasLimit 18 = .ok (.imul, 1) := by decide +kernel
theorem dX3_hasLimit_19 : decode cX3_hasLimit 19 = .ok (.iload_n 3, 1) := by decide +kernel
theorem dX3_hasLimit_20 : decode cX3_hasLimit 20 = .ok (.iadd, 1) := by decide +kernel
theorem dX3_hasLimit_21 : decode cX3_hasLimit 21 = .ok (.iaload, 1) := by decide +kernel
theorem dX3_hasLimit_22 : decode cX3_hasLimit 22 = .ok (.iload_n 2, 1) := by decide +kernel
theorem dX3_hasLimit_23 : decode cX3_hasLimit 23 = .ok (.if_icmp .ne 5, 3) := by decide +kernel
theorem dX3_hasLimit_26 : decode cX3_hasLimit 26 = .ok (.iconst 1, 1) := by decide +kernel
theorem dX3_hasLimit_27 : decode cX3_hasLimit 27 = .ok (.ireturn, 1) := by decide +kernel
theorem dX3_hasLimit_28 : decode cX3_hasLimit 28 = .ok (.iinc 3 1, 3) := by decide +kernel
theorem dX3_hasLimit_31 : decode cX3_hasLimit 31 = .ok (.goto (-29), 3) := by decide +kernel
theorem dX3_hasLimit_34 : decode cX3_hasLimit 34 = .ok (.iconst 0, 1) := by decide +kernel
theorem dX3_hasLimit_35 : decode cX3_hasLimit 35 = .ok (.ireturn, 1) := by decide +kernel
theorem dX3_putLimit_0 : decode cX3_putLimit 0 = .ok (.aload_n 0, 1) := by decide +kernel
theorem dX3_putLimit_1 : decode cX3_putLimit 1 = .ok (.getfield 33, 3) := by decide +kernel
theorem dX3_putLimit_4 : decode cX3_putLimit 4 = .ok (.iload_n 1, 1) := by decide +kernel
theorem dX3_putLimit_5 : decode cX3_putLimit 5 = .ok (.iaload, 1) := by decide +kernel
theorem dX3_putLimit_6 : decode cX3_putLimit 6 = .ok (.iconst 5, 1) := by decide +kernel
theorem dX3_putLimit_7 : decode cX3_putLimit 7 = .ok (.if_icmp .lt 4, 3) := by decide +kernel
theorem dX3_putLimit_10 : decode cX3_putLimit 10 = .ok (.return_, 1) := by decide +kernel
theorem dX3_putLimit_11 : decode cX3_putLimit 11 = .ok (.iload_n 1, 1) := by decide +kernel
theorem dX3_putLimit_12 : decode cX3_putLimit 12 = .ok (.iconst 5, 1) := by decide +kernel
theorem dX3_putLimit_13 : decode cX3_putLimit 13 = .ok (.imul, 1) := by decide +kernel
theorem dX3_putLimit_14 : decode cX3_putLimit 14 = .ok (.istore_n 3, 1) := by decide +kernel
theorem dX3_putLimit_15 : decode cX3_putLimit 15 = .ok (.iload_n 3, 1) := by decide +kernel
theorem dX3_putLimit_16 : decode cX3_putLimit 16 = .ok (.aload_n 0, 1) := by decide +kernel
theorem dX3_putLimit_17 : decode cX3_putLimit 17 = .ok (.getfield 33, 3) := by decide +kernel
theorem dX3_putLimit_20 : decode cX3_putLimit 20 = .ok (.iload_n 1, 1) := by decide +kernel
theorem dX3_putLimit_21 : decode cX3_putLimit 21 = .ok (.iaload, 1) := by decide +kernel
theorem dX3_putLimit_22 : decode cX3_putLimit 22 = .ok (.iadd, 1) := by decide +kernel
theorem dX3_putLimit_23 : decode cX3_putLimit 23 = .ok (.istore 4, 2) := by decide +kernel
theorem dX3_putLimit_25 : decode cX3_putLimit 25 = .ok (.iload 4, 2) := by decide +kernel
theorem dX3_putLimit_27 : decode cX3_putLimit 27 = .ok (.iload_n 3, 1) := by decide +kernel
theorem dX3_putLimit_28 : decode cX3_putLimit 28 = .ok (.if_icmp .le 38, 3) := by decide +kernel
theorem dX3_putLimit_31 : decode cX3_putLimit 31 = .ok (.aload_n 0, 1) := by decide +kernel
theorem dX3_putLimit_32 : decode cX3_putLimit 32 = .ok (.getfield 36, 3) := by decide +kernel
theorem dX3_putLimit_35 : decode cX3_putLimit 35 = .ok (.iload 4, 2) := by decide +kernel
theorem dX3_putLimit_37 : decode cX3_putLimit 37 = .ok (.iconst 1, 1) := by decide +kernel
theorem dX3_putLimit_38 : decode cX3_putLimit 38 = .ok (.isub, 1) := by decide +kernel
theorem dX3_putLimit_39 : decode cX3_putLimit 39 = .ok (.iaload, 1) := by decide +kernel
theorem dX3_putLimit_40 : decode cX3_putLimit 40 = .ok (.iload_n 2, 1) := by decide +kernel
theorem dX3_putLimit_41 : decode cX3_putLimit 41 = .ok (.if_icmp .le 25, 3) := by decide +kernel
theorem dX3_putLimit_44 : decode cX3_putLimit 44 = .ok (.aload_n 0, 1) := by decide +kernel
theorem dX3_putLimit_45 : decode cX3_putLimit 45 = .ok (.getfield 36, 3) := by decide +kernel
theorem dX3_putLimit_48 : decode cX3_putLimit 48 = .ok (.iload 4, 2) := by decide +kernel
theorem dX3_putLimit_50 : decode cX3_putLimit 50 = .ok (.aload_n 0, 1) := by decide +kernel
theorem dX3_putLimit_51 : decode cX3_putLimit 51 = .ok (.getfield 36, 3) := by decide +kernel
theorem dX3_putLimit_54 : decode cX3_putLimit 54 = .ok (.iload 4, 2) := by decide +kernel
theorem dX3_putLimit_56 : decode cX3_putLimit 56 = .ok (.iconst 1, 1) := by decide +kernel
theorem dX3_putLimit_57 : decode cX3_putLimit 57 = .ok (.isub, 1) := by decide +kernel
theorem dX3_putLimit_58 : decode cX3_putLimit 58 = .ok (.iaload, 1) := by decide +kernel
theorem dX3_putLimit_59 : decode cX3_putLimit 59 = .ok (.iastore, 1) := by decide +kernel
theorem dX3_putLimit_60 : decode cX3_putLimit 60 = .ok (.iinc 4 (-1), 3) := by decide +kernel
theorem dX3_putLimit_63 : decode cX3_putLimit 63 = .ok (.goto (-38), 3) := by decide +kernel
theorem dX3_putLimit_66 : decode cX3_putLimit 66 = .ok (.aload_n 0, 1) := by decide +kernel
theorem dX3_putLimit_67 : decode cX3_putLimit 67 = .ok (.getfield 36, 3) := by decide +kernel
theorem dX3_putLimit_70 : decode cX3_putLimit 70 = .ok (.iload 4, 2) := by decide +kernel
theorem dX3_putLimit_72 : decode cX3_putLimit 72 = .ok (.iload_n 2, 1) := by decide +kernel
theorem dX3_putLimit_73 : decode cX3_putLimit 73 = .ok (.iastore, 1) := by decide +kernel
theorem dX3_putLimit_74 : decode cX3_putLimit 74 = .ok (.aload_n 0, 1) := by decide +kernel
theorem dX3_putLimit_75 : decode cX3_putLimit 75 = .ok (.getfield 33, 3) := by decide +kernel
theorem dX3_putLimit_78 : decode cX3_putLimit 78 = .ok (.iload_n 1, 1) := by decide +kernel
theorem dX3_putLimit_79 : decode cX3_putLimit 79 = .ok (.dup2, 1) := by decide +kernel
theorem dX3_putLimit_80 : decode cX3_putLimit 80 = .ok (.iaload, 1) := by decide +kernel
theorem dX3_putLimit_81 : decode cX3_putLimit 81 = .ok (.iconst 1, 1) := by decide +kernel
theorem dX3_putLimit_82 : decode cX3_putLimit 82 = .ok (.iadd, 1) := by decide +kernel
theorem dX3_putLimit_83 : decode cX3_putLimit 83 = .ok (.iastore, 1) := by decide +kernel
theorem dX3_putLimit_84 : decode cX3_putLimit 84 = .ok (.return_, 1) := by decide +kernel
theorem dX3_dropLimit_0 : decode cX3_dropLimit 0 = .ok (.iload_n 1, 1) := by decide +kernel
theorem dX3_dropLimit_1 : decode cX3_dropLimit 1 = .ok (.iconst 5, 1) := by decide +kernel
theorem dX3_dropLimit_2 : decode cX3_dropLimit 2 = .ok (.imul, 1) := by decide +kernel
theorem dX3_dropLimit_3 : decode cX3_dropLimit 3 = .ok (.istore_n 3, 1) := by decide +kernel
theorem dX3_dropLimit_4 : decode cX3_dropLimit 4 = .ok (.iconst 0, 1) := by decide +kernel
theorem dX3_dropLimit_5 : decode cX3_dropLimit 5 = .ok (.istore 4, 2) := by decide +kernel
theorem dX3_dropLimit_7 : decode cX3_dropLimit 7 = .ok (.iconst 0, 1) := by decide +kernel
theorem dX3_dropLimit_8 : decode cX3_dropLimit 8 = .ok (.istore 5, 2) := by decide +kernel
theorem dX3_dropLimit_10 : decode cX3_dropLimit 10 = .ok (.iload 5, 2) := by decide +kernel
theorem dX3_dropLimit_12 : decode cX3_dropLimit 12 = .ok (.aload_n 0, 1) := by decide +kernel
theorem dX3_dropLimit_13 : decode cX3_dropLimit 13 = .ok (.getfield 33, 3) := by decide +kernel
theorem dX3_dropLimit_16 : decode cX3_dropLimit 16 = .ok (.iload_n 1, 1) := by decide +kernel
theorem dX3_dropLimit_17 : decode cX3_dropLimit 17 = .ok (.iaload, 1) := by decide +kernel
theorem dX3_dropLimit_18 : decode cX3_dropLimit 18 = .ok (.if_icmp .ge 40, 3) := by decide +kernel
theorem dX3_dropLimit_21 : decode cX3_dropLimit 21 = .ok (.aload_n 0, 1) := by decide +kernel
theorem dX3_dropLimit_22 : decode cX3_dropLimit 22 = .ok (.getfield 36, 3) := by decide +kernel
theorem dX3_dropLimit_25 : decode cX3_dropLimit 25 = .ok (.iload_n 3, 1) := by decide +kernel
theorem dX3_dropLimit_26 : decode cX3_dropLimit 26 = .ok (.iload 5, 2) := by decide +kernel
theorem dX3_dropLimit_28 : decode cX3_dropLimit 28 = .ok (.iadd, 1) := by decide +kernel
theorem dX3_dropLimit_29 : decode cX3_dropLimit 29 = .ok (.iaload, 1) := by decide +kernel
theorem dX3_dropLimit_30 : decode cX3_dropLimit 30 = .ok (.istore 6, 2) := by decide +kernel
theorem dX3_dropLimit_32 : decode cX3_dropLimit 32 = .ok (.iload 6, 2) := by decide +kernel
theorem dX3_dropLimit_34 : decode cX3_dropLimit 34 = .ok (.iload_n 2, 1) := by decide +kernel
theorem dX3_dropLimit_35 : decode cX3_dropLimit 35 = .ok (.if_icmp .eq 17, 3) := by decide +kernel
theorem dX3_dropLimit_38 : decode cX3_dropLimit 38 = .ok (.aload_n 0, 1) := by decide +kernel
theorem dX3_dropLimit_39 : decode cX3_dropLimit 39 = .ok (.getfield 36, 3) := by decide +kernel
theorem dX3_dropLimit_42 : decode cX3_dropLimit 42 = .ok (.iload_n 3, 1) := by decide +kernel
theorem dX3_dropLimit_43 : decode cX3_dropLimit 43 = .ok (.iload 4, 2) := by decide +kernel
theorem dX3_dropLimit_45 : decode cX3_dropLimit 45 = .ok (.iadd, 1) := by decide +kernel
theorem dX3_dropLimit_46 : decode cX3_dropLimit 46 = .ok (.iload 6, 2) := by decide +kernel
theorem dX3_dropLimit_48 : decode cX3_dropLimit 48 = .ok (.iastore, 1) := by decide +kernel
theorem dX3_dropLimit_49 : decode cX3_dropLimit 49 = .ok (.iinc 4 1, 3) := by decide +kernel
theorem dX3_dropLimit_52 : decode cX3_dropLimit 52 = .ok (.iinc 5 1, 3) := by decide +kernel
theorem dX3_dropLimit_55 : decode cX3_dropLimit 55 = .ok (.goto (-45), 3) := by decide +kernel
theorem dX3_dropLimit_58 : decode cX3_dropLimit 58 = .ok (.aload_n 0, 1) := by decide +kernel
theorem dX3_dropLimit_59 : decode cX3_dropLimit 59 = .ok (.getfield 33, 3) := by decide +kernel
theorem dX3_dropLimit_62 : decode cX3_dropLimit 62 = .ok (.iload_n 1, 1) := by decide +kernel
theorem dX3_dropLimit_63 : decode cX3_dropLimit 63 = .ok (.iload 4, 2) := by decide +kernel
theorem dX3_dropLimit_65 : decode cX3_dropLimit 65 = .ok (.iastore, 1) := by decide +kernel
theorem dX3_dropLimit_66 : decode cX3_dropLimit 66 = .ok (.return_, 1) := by decide +kernel
theorem dX4_init_0 : decode cX4_init 0 = .ok (.aload_n 0, 1) := by decide +kernel
theorem dX4_init_1 : decode cX4_init 1 = .ok (.invokespecial 3, 3) := by decide +kernel
theorem dX4_init_4 : decode cX4_init 4 = .ok (.aload_n 0, 1) := by decide +kernel
theorem dX4_init_5 : decode cX4_init 5 = .ok (.bipush 12, 2) := by decide +kernel
theorem dX4_init_7 : decode cX4_init 7 = .ok (.newarray .int, 2) := by decide +kernel
theorem dX4_init_9 : decode cX4_init 9 = .ok (.putfield 9, 3) := by decide +kernel
theorem dX4_init_12 : decode cX4_init 12 = .ok (.aload_n 0, 1) := by decide +kernel
theorem dX4_init_13 : decode cX4_init 13 = .ok (.bipush 72, 2) := by decide +kernel
theorem dX4_init_15 : decode cX4_init 15 = .ok (.newarray .int, 2) := by decide +kernel
theorem dX4_init_17 : decode cX4_init 17 = .ok (.putfield 15, 3) := by decide +kernel
theorem dX4_init_20 : decode cX4_init 20 = .ok (.aload_n 0, 1) := by decide +kernel
theorem dX4_init_21 : decode cX4_init 21 = .ok (.bipush 12, 2) := by decide +kernel
theorem dX4_init_23 : decode cX4_init 23 = .ok (.newarray .int, 2) := by decide +kernel
theorem dX4_init_25 : decode cX4_init 25 = .ok (.putfield 18, 3) := by decide +kernel
theorem dX4_init_28 : decode cX4_init 28 = .ok (.aload_n 0, 1) := by decide +kernel
theorem dX4_init_29 : decode cX4_init 29 = .ok (.bipush 72, 2) := by decide +kernel
theorem dX4_init_31 : decode cX4_init 31 = .ok (.newarray .int, 2) := by decide +kernel
theorem dX4_init_33 : decode cX4_init 33 = .ok (.putfield 21, 3) := by decide +kernel
theorem dX4_init_36 : decode cX4_init 36 = .ok (.aload_n 0, 1) := by decide +kernel
theorem dX4_init_37 : decode cX4_init 37 = .ok (.bipush 72, 2) := by decide +kernel
theorem dX4_init_39 : decode cX4_init 39 = .ok (.newarray .int, 2) := by decide +kernel
theorem dX4_init_41 : decode cX4_init 41 = .ok (.putfield 24, 3) := by decide +kernel
theorem dX4_init_44 : decode cX4_init 44 = .ok (.aload_n 0, 1) := by decide +kernel
theorem dX4_init_45 : decode cX4_init 45 = .ok (.bipush 72, 2) := by decide +kernel
theorem dX4_init_47 : decode cX4_init 47 = .ok (.newarray .int, 2) := by decide +kernel
theorem dX4_init_49 : decode cX4_init 49 = .ok (.putfield 27, 3) := by decide +kernel
theorem dX4_init_52 : decode cX4_init 52 = .ok (.return_, 1) := by decide +kernel
theorem dX4_build_0 : decode cX4_build 0 = .ok (.aload_n 0, 1) := by decide +kernel
theorem dX4_build_1 : decode cX4_build 1 = .ok (.aload_n 1, 1) := by decide +kernel
theorem dX4_build_2 : decode cX4_build 2 = .ok (.aload_n 2, 1) := by decide +kernel
theorem dX4_build_3 : decode cX4_build 3 = .ok (.invokevirtual 30, 3) := by decide +kernel
theorem dX4_build_6 : decode cX4_build 6 = .ok (.iconst 0, 1) := by decide +kernel
theorem dX4_build_7 : decode cX4_build 7 = .ok (.istore_n 3, 1) := by decide +kernel
theorem dX4_build_8 : decode cX4_build 8 = .ok (.iload_n 3, 1) := by decide +kernel
theorem dX4_build_9 : decode cX4_build 9 = .ok (.bipush 12, 2) := by decide +kernel
theorem dX4_build_11 : decode cX4_build 11 = .ok (.if_icmp .ge 58, 3) := by decide +kernel
theorem dX4_build_14 : decode cX4_build 14 = .ok (.aload_n 0, 1) := by decide +kernel
theorem dX4_build_15 : decode cX4_build 15 = .ok (.iload_n 3, 1) := by decide +kernel
theorem dX4_build_16 : decode cX4_build 16 = .ok (.invokevirtual 34, 3) := by decide +kernel
theorem dX4_build_19 : decode cX4_build 19 = .ok (.aload_n 1, 1) := by decide +kernel
theorem dX4_build_20 : decode cX4_build 20 = .ok (.getfield 38, 3) := by decide +kernel
theorem dX4_build_23 : decode cX4_build 23 = .ok (.iconst 0, 1) := by decide +kernel
theorem dX4_build_24 : decode cX4_build 24 = .ok (.iaload, 1) := by decide +kernel
theorem dX4_build_25 : decode cX4_build 25 = .ok (.iconst 1, 1) := by decide +kernel
theorem dX4_build_26 : decode cX4_build 26 = .ok (.invokestatic 43, 3) := by decide +kernel
theorem dX4_build_29 : decode cX4_build 29 = .ok (.istore 4, 2) := by decide +kernel
theorem dX4_build_31 : decode cX4_build 31 = .ok (.iconst 0, 1) := by decide +kernel
theorem dX4_build_32 : decode cX4_build 32 = .ok (.istore 5, 2) := by decide +kernel
theorem dX4_build_34 : decode cX4_build 34 = .ok (.iload 5, 2) := by decide +kernel
theorem dX4_build_36 : decode cX4_build 36 = .ok (.bipush 6, 2) := by decide +kernel
theorem dX4_build_38 : decode cX4_build 38 = .ok (.if_icmp .ge 25, 3) := by decide +kernel
theorem dX4_build_41 : decode cX4_build 41 = .ok (.aload_n 0, 1) := by decide +kernel
theorem dX4_build_42 : decode cX4_build 42 = .ok (.getfield 18, 3) := by decide +kernel
theorem dX4_build_45 : decode cX4_build 45 = .ok (.iload_n 3, 1) := by decide +kernel
theorem dX4_build_46 : decode cX4_build 46 = .ok (.iaload, 1) := by decide +kernel
theorem dX4_build_47 : decode cX4_build 47 = .ok (.iload 4, 2) := by decide +kernel
theorem dX4_build_49 : decode cX4_build 49 = .ok (.if_icmp .le 14, 3) := by decide +kernel
theorem dX4_build_52 : decode cX4_build 52 = .ok (.aload_n 0, 1) := by decide +kernel
theorem dX4_build_53 : decode cX4_build 53 = .ok (.iload_n 3, 1) := by decide +kernel
theorem dX4_build_54 : decode cX4_build 54 = .ok (.invokevirtual 49, 3) := by decide +kernel
theorem dX4_build_57 : decode cX4_build 57 = .ok (.iinc 5 1, 3) := by decide +kernel
theorem dX4_build_60 : decode cX4_build 60 = .ok (.goto (-26), 3) := by decide +kernel
theorem dX4_build_63 : decode cX4_build 63 = .ok (.iinc 3 1, 3) := by decide +kernel
theorem dX4_build_66 : decode cX4_build 66 = .ok (.goto (-58), 3) := by decide +kernel
theorem dX4_build_69 : decode cX4_build 69 = .ok (.return_, 1) := by decide +kernel
theorem dX4_countSigns_0 : decode cX4_countSigns 0 = .ok (.iconst 0, 1) := by decide +kernel
theorem dX4_countSigns_1 : decode cX4_countSigns 1 = .ok (.istore_n 3, 1) := by decide +kernel
theorem dX4_countSigns_2 : decode cX4_countSigns 2 = .ok (.iload_n 3, 1) := by decide +kernel
theorem dX4_countSigns_3 : decode cX4_countSigns 3 = .ok (.bipush 12, 2) := by decide +kernel
theorem dX4_countSigns_5 : decode cX4_countSigns 5 = .ok (.if_icmp .ge 16, 3) := by decide +kernel
theorem dX4_countSigns_8 : decode cX4_countSigns 8 = .ok (.aload_n 0, 1) := by decide +kernel
theorem dX4_countSigns_9 : decode cX4_countSigns 9 = .ok (.getfield 9, 3) := by decide +kernel
theorem dX4_countSigns_12 : decode cX4_countSigns 12 = .ok (.iload_n 3, 1) := by decide +kernel
theorem dX4_countSigns_13 : decode cX4_countSigns 13 = .ok (.iconst 0, 1) := by decide +kernel
theorem dX4_countSigns_14 : decode cX4_countSigns 14 = .ok (.iastore, 1) := by decide +kernel
theorem dX4_countSigns_15 : decode cX4_countSigns 15 = .ok (.iinc 3 1, 3) := by decide +kernel
theorem dX4_countSigns_18 : decode cX4_countSigns 18 = .ok (.goto (-16), 3) := by decide +kernel
theorem dX4_countSigns_21 : decode cX4_countSigns 21 = .ok (.iconst 0, 1) := by decide +kernel
theorem dX4_countSigns_22 : decode cX4_countSigns 22 = .ok (.istore_n 3, 1) := by decide +kernel
theorem dX4_countSigns_23 : decode cX4_countSigns 23 = .ok (.iload_n 3, 1) := by decide +kernel
theorem dX4_countSigns_24 : decode cX4_countSigns 24 = .ok (.bipush 72, 2) := by decide +kernel
theorem dX4_countSigns_26 : decode cX4_countSigns 26 = .ok (.if_icmp .ge 16, 3) := by decide +kernel
theorem dX4_countSigns_29 : decode cX4_countSigns 29 = .ok (.aload_n 0, 1) := by decide +kernel
theorem dX4_countSigns_30 : decode cX4_countSigns 30 = .ok (.getfield 15, 3) := by decide +kernel
theorem dX4_countSigns_33 : decode cX4_countSigns 33 = .ok (.iload_n 3, 1) := by decide +kernel
theorem dX4_countSigns_34 : decode cX4_countSigns 34 = .ok (.iconst 0, 1) := by decide +kernel
theorem dX4_countSigns_35 : decode cX4_countSigns 35 = .ok (.iastore, 1) := by decide +kernel
theorem dX4_countSigns_36 : decode cX4_countSigns 36 = .ok (.iinc 3 1, 3) := by decide +kernel
theorem dX4_countSigns_39 : decode cX4_countSigns 39 = .ok (.goto (-16), 3) := by decide +kernel
theorem dX4_countSigns_42 : decode cX4_countSigns 42 = .ok (.iconst 0, 1) := by decide +kernel
theorem dX4_countSigns_43 : decode cX4_countSigns 43 = .ok (.istore_n 3, 1) := by decide +kernel
theorem dX4_countSigns_44 : decode cX4_countSigns 44 = .ok (.iload_n 3, 1) := by decide +kernel
theorem dX4_countSigns_45 : decode cX4_countSigns 45 = .ok (.aload_n 1, 1) := by decide +kernel
theorem dX4_countSigns_46 : decode cX4_countSigns 46 = .ok (.getfield 52, 3) := by decide +kernel
theorem dX4_countSigns_49 : decode cX4_countSigns 49 = .ok (.if_icmp .ge 54, 3) := by decide +kernel
theorem dX4_countSigns_52 : decode cX4_countSigns 52 = .ok (.aload_n 2, 1) := by decide +kernel
theorem dX4_countSigns_53 : decode cX4_countSigns 53 = .ok (.iload_n 3, 1) := by decide +kernel
theorem dX4_countSigns_54 : decode cX4_countSigns 54 = .ok (.baload, 1) := by decide +kernel
theorem dX4_countSigns_55 : decode cX4_countSigns 55 = .ok (.ifCond .eq 42, 3) := by decide +kernel
theorem dX4_countSigns_58 : decode cX4_countSigns 58 = .ok (.aload_n 1, 1) := by decide +kernel
theorem dX4_countSigns_59 : decode cX4_countSigns 59 = .ok (.getfield 56, 3) := by decide +kernel
theorem dX4_countSigns_62 : decode cX4_countSigns 62 = .ok (.iload_n 3, 1) := by decide +kernel
theorem dX4_countSigns_63 : decode cX4_countSigns 63 = .ok (.iaload, 1) := by decide +kernel
theorem dX4_countSigns_64 : decode cX4_countSigns 64 = .ok (.istore 4, 2) := by decide +kernel
theorem dX4_countSigns_66 : decode cX4_countSigns 66 = .ok (.aload_n 0, 1) := by decide +kernel
theorem dX4_countSigns_67 : decode cX4_countSigns 67 = .ok (.getfield 9, 3) := by decide +kernel
theorem dX4_countSigns_70 : decode cX4_countSigns 70 = .ok (.iload 4, 2) := by decide +kernel
theorem dX4_countSigns_72 : decode cX4_countSigns 72 = .ok (.dup2, 1) := by decide +kernel
theorem dX4_countSigns_73 : decode cX4_countSigns 73 = .ok (.iaload, 1) := by decide +kernel
theorem dX4_countSigns_74 : decode cX4_countSigns 74 = .ok (.iconst 1, 1) := by decide +kernel
theorem dX4_countSigns_75 : decode cX4_countSigns 75 = .ok (.iadd, 1) := by decide +kernel
theorem dX4_countSigns_76 : decode cX4_countSigns 76 = .ok (.iastore, 1) := by decide +kernel
theorem dX4_countSigns_77 : decode cX4_countSigns 77 = .ok (.aload_n 0, 1) := by decide +kernel
theorem dX4_countSigns_78 : decode cX4_countSigns 78 = .ok (.getfield 15, 3) := by decide +kernel
theorem dX4_countSigns_81 : decode cX4_countSigns 81 = .ok (.iload 4, 2) := by decide +kernel
theorem dX4_countSigns_83 : decode cX4_countSigns 83 = .ok (.bipush 6, 2) := by decide +kernel
theorem dX4_countSigns_85 : decode cX4_countSigns 85 = .ok (.imul, 1) := by decide +kernel
theorem dX4_countSigns_86 : decode cX4_countSigns 86 = .ok (.aload_n 1, 1) := by decide +kernel
theorem dX4_countSigns_87 : decode cX4_countSigns 87 = .ok (.iload_n 3, 1) := by decide +kernel
theorem dX4_countSigns_88 : decode cX4_countSigns 88 = .ok (.invokevirtual 59, 3) := by decide +kernel
theorem dX4_countSigns_91 : decode cX4_countSigns 91 = .ok (.iadd, 1) := by decide +kernel
theorem dX4_countSigns_92 : decode cX4_countSigns 92 = .ok (.dup2, 1) := by decide +kernel
theorem dX4_countSigns_93 : decode cX4_countSigns 93 = .ok (.iaload, 1) := by decide +kernel
theorem dX4_countSigns_94 : decode cX4_countSigns 94 = .ok (.iconst 1, 1) := by decide +kernel
theorem dX4_countSigns_95 : decode cX4_countSigns 95 = .ok (.iadd, 1) := by decide +kernel
theorem dX4_countSigns_96 : decode cX4_countSigns 96 = .ok (.iastore, 1) := by decide +kernel
theorem dX4_countSigns_97 : decode cX4_countSigns 97 = .ok (.iinc 3 1, 3) := by decide +kernel
theorem dX4_countSigns_100 : decode cX4_countSigns 100 = .ok (.goto (-56), 3) := by decide +kernel
theorem dX4_countSigns_103 : decode cX4_countSigns 103 = .ok (.return_, 1) := by decide +kernel
theorem dX4_takeClasses_0 : decode cX4_takeClasses 0 = .ok (.iload_n 1, 1) := by decide +kernel
theorem dX4_takeClasses_1 : decode cX4_takeClasses 1 = .ok (.bipush 6, 2) := by decide +kernel
theorem dX4_takeClasses_3 : decode cX4_takeClasses 3 = .ok (.imul, 1) := by decide +kernel
theorem dX4_takeClasses_4 : decode cX4_takeClasses 4 = .ok (.istore_n 2, 1) := by decide +kernel
theorem dX4_takeClasses_5 : decode cX4_takeClasses 5 = .ok (.aload_n 0, 1) := by decide +kernel
theorem dX4_takeClasses_6 : decode cX4_takeClasses 6 = .ok (.getfield 18, 3) := by decide +kernel
theorem dX4_takeClasses_9 : decode cX4_takeClasses 9 = .ok (.iload_n 1, 1) := by decide +kernel
theorem dX4_takeClasses_10 : decode cX4_takeClasses 10 = .ok (.iconst 0, 1) := by decide +kernel
theorem dX4_takeClasses_11 : decode cX4_takeClasses 11 = .ok (.iastore, 1) := by decide +kernel
theorem dX4_takeClasses_12 : decode cX4_takeClasses 12 = .ok (.iconst 0, 1) := by decide +kernel
theorem dX4_takeClasses_13 : decode cX4_takeClasses 13 = .ok (.istore_n 3, 1) := by decide +kernel
theorem dX4_takeClasses_14 : decode cX4_takeClasses 14 = .ok (.iload_n 3, 1) := by decide +kernel
theorem dX4_takeClasses_15 : decode cX4_takeClasses 15 = .ok (.bipush 6, 2) := by decide +kernel
theorem dX4_takeClasses_17 : decode cX4_takeClasses 17 = .ok (.if_icmp .ge 71, 3) := by decide +kernel
theorem dX4_takeClasses_20 : decode cX4_takeClasses 20 = .ok (.aload_n 0, 1) := by decide +kernel
theorem dX4_takeClasses_21 : decode cX4_takeClasses 21 = .ok (.getfield 15, 3) := by decide +kernel
theorem dX4_takeClasses_24 : decode cX4_takeClasses 24 = .ok (.iload_n 2, 1) := by decide +kernel
theorem dX4_takeClasses_25 : decode cX4_takeClasses 25 = .ok (.iload_n 3, 1) := by decide +kernel
theorem dX4_takeClasses_26 : decode cX4_takeClasses 26 = .ok (.iadd, 1) := by decide +kernel
theorem dX4_takeClasses_27 : decode cX4_takeClasses 27 = .ok (.iaload, 1) := by decide +kernel
theorem dX4_takeClasses_28 : decode cX4_takeClasses 28 = .ok (.ifCond .le 54, 3) := by decide +kernel
theorem dX4_takeClasses_31 : decode cX4_takeClasses 31 = .ok (.iload_n 2, 1) := by decide +kernel
theorem dX4_takeClasses_32 : decode cX4_takeClasses 32 = .ok (.aload_n 0, 1) := by decide +kernel
theorem dX4_takeClasses_33 : decode cX4_takeClasses 33 = .ok (.getfield 18, 3) := by decide +kernel
theorem dX4_takeClasses_36 : decode cX4_takeClasses 36 = .ok (.iload_n 1, 1) := by decide +kernel
theorem dX4_takeClasses_37 : decode cX4_takeClasses 37 = .ok (.iaload, 1) := by decide +kernel
theorem dX4_takeClasses_38 : decode cX4_takeClasses 38 = .ok (.iadd, 1) := by decide +kernel
theorem dX4_takeClasses_39 : decode cX4_takeClasses 39 = .ok (.istore 4, 2) := by decide +kernel
theorem dX4_takeClasses_41 : decode cX4_takeClasses 41 = .ok (.aload_n 0, 1) := by decide +kernel
theorem dX4_takeClasses_42 : decode cX4_takeClasses 42 = .ok (.getfield 21, 3) := by decide +kernel
theorem dX4_takeClasses_45 : decode cX4_takeClasses 45 = .ok (.iload 4, 2) := by decide +kernel
theorem dX4_takeClasses_47 : decode cX4_takeClasses 47 = .ok (.iload_n 3, 1) := by decide +kernel
theorem dX4_takeClasses_48 : decode cX4_takeClasses 48 = .ok (.iastore, 1) := by decide +kernel
theorem dX4_takeClasses_49 : decode cX4_takeClasses 49 = .ok (.aload_n 0, 1) := by decide +kernel
theorem dX4_takeClasses_50 : decode cX4_takeClasses 50 = .ok (.getfield 24, 3) := by decide +kernel
theorem dX4_takeClasses_53 : decode cX4_takeClasses 53 = .ok (.iload 4, 2) := by decide +kernel
theorem dX4_takeClasses_55 : decode cX4_takeClasses 55 = .ok (.iload_n 3, 1) := by decide +kernel
theorem dX4_takeClasses_56 : decode cX4_takeClasses 56 = .ok (.iastore, 1) := by decide +kernel
theorem dX4_takeClasses_57 : decode cX4_takeClasses 57 = .ok (.aload_n 0, 1) := by decide +kernel
theorem dX4_takeClasses_58 : decode cX4_takeClasses 58 = .ok (.getfield 27, 3) := by decide +kernel
theorem dX4_takeClasses_61 : decode cX4_takeClasses 61 = .ok (.iload 4, 2) := by decide +kernel
theorem dX4_takeClasses_63 : decode cX4_takeClasses 63 = .ok (.aload_n 0, 1) := by decide +kernel
theorem dX4_takeClasses_64 : decode cX4_takeClasses 64 = .ok (.getfield 15, 3) := by decide +kernel
theorem dX4_takeClasses_67 : decode cX4_takeClasses 67 = .ok (.iload_n 2, 1) := by decide +kernel
theorem dX4_takeClasses_68 : decode cX4_takeClasses 68 = .ok (.iload_n 3, 1) := by decide +kernel
theorem dX4_takeClasses_69 : decode cX4_takeClasses 69 = .ok (.iadd, 1) := by decide +kernel
theorem dX4_takeClasses_70 : decode cX4_takeClasses 70 = .ok (.iaload, 1) := by decide +kernel
theorem dX4_takeClasses_71 : decode cX4_takeClasses 71 = .ok (.iastore, 1) := by decide +kernel
theorem dX4_takeClasses_72 : decode cX4_takeClasses 72 = .ok (.aload_n 0, 1) := by decide +kernel
theorem dX4_takeClasses_73 : decode cX4_takeClasses 73 = .ok (.getfield 18, 3) := by decide +kernel
theorem dX4_takeClasses_76 : decode cX4_takeClasses 76 = .ok (.iload_n 1, 1) := by decide +kernel
theorem dX4_takeClasses_77 : decode cX4_takeClasses 77 = .ok (.dup2, 1) := by decide +kernel
theorem dX4_takeClasses_78 : decode cX4_takeClasses 78 = .ok (.iaload, 1) := by decide +kernel
theorem dX4_takeClasses_79 : decode cX4_takeClasses 79 = .ok (.iconst 1, 1) := by decide +kernel
theorem dX4_takeClasses_80 : decode cX4_takeClasses 80 = .ok (.iadd, 1) := by decide +kernel
theorem dX4_takeClasses_81 : decode cX4_takeClasses 81 = .ok (.iastore, 1) := by decide +kernel
theorem dX4_takeClasses_82 : decode cX4_takeClasses 82 = .ok (.iinc 3 1, 3) := by decide +kernel
theorem dX4_takeClasses_85 : decode cX4_takeClasses 85 = .ok (.goto (-71), 3) := by decide +kernel
theorem dX4_takeClasses_88 : decode cX4_takeClasses 88 = .ok (.return_, 1) := by decide +kernel
theorem dX4_joinFewest_0 : decode cX4_joinFewest 0 = .ok (.iload_n 1, 1) := by decide +kernel
theorem dX4_joinFewest_1 : decode cX4_joinFewest 1 = .ok (.bipush 6, 2) := by decide +kernel
theorem dX4_joinFewest_3 : decode cX4_joinFewest 3 = .ok (.imul, 1) := by decide +kernel
theorem dX4_joinFewest_4 : decode cX4_joinFewest 4 = .ok (.istore_n 2, 1) := by decide +kernel
theorem dX4_joinFewest_5 : decode cX4_joinFewest 5 = .ok (.iload_n 2, 1) := by decide +kernel
theorem dX4_joinFewest_6 : decode cX4_joinFewest 6 = .ok (.aload_n 0, 1) := by decide +kernel
theorem dX4_joinFewest_7 : decode cX4_joinFewest 7 = .ok (.getfield 18, 3) := by decide +kernel
theorem dX4_joinFewest_10 : decode cX4_joinFewest 10 = .ok (.iload_n 1, 1) := by decide +kernel
theorem dX4_joinFewest_11 : decode cX4_joinFewest 11 = .ok (.iaload, 1) := by decide +kernel
theorem dX4_joinFewest_12 : decode cX4_joinFewest 12 = .ok (.iadd, 1) := by decide +kernel
theorem dX4_joinFewest_13 : decode cX4_joinFewest 13 = .ok (.istore_n 3, 1) := by decide +kernel
theorem dX4_joinFewest_14 : decode cX4_joinFewest 14 = .ok (.iload_n 2, 1) := by decide +kernel
theorem dX4_joinFewest_15 : decode cX4_joinFewest 15 = .ok (.istore 4, 2) := by decide +kernel
theorem dX4_joinFewest_17 : decode cX4_joinFewest 17 = .ok (.iload_n 2, 1) := by decide +kernel
theorem dX4_joinFewest_18 : decode cX4_joinFewest 18 = .ok (.iconst 1, 1) := by decide +kernel
theorem dX4_joinFewest_19 : decode cX4_joinFewest 19 = .ok (.iadd, 1) := by decide +kernel
theorem dX4_joinFewest_20 : decode cX4_joinFewest 20 = .ok (.istore 5, 2) := by decide +kernel
theorem dX4_joinFewest_22 : decode cX4_joinFewest 22 = .ok (.iload 5, 2) := by decide +kernel
theorem dX4_joinFewest_24 : decode cX4_joinFewest 24 = .ok (.iconst 1, 1) := by decide +kernel
theorem dX4_joinFewest_25 : decode cX4_joinFewest 25 = .ok (.iadd, 1) := by decide +kernel
theorem dX4_joinFewest_26 : decode cX4_joinFewest 26 = .ok (.iload_n 3, 1) := by decide +kernel
theorem dX4_joinFewest_27 : decode cX4_joinFewest 27 = .ok (.if_icmp .ge 50, 3) := by decide +kernel
theorem dX4_joinFewest_30 : decode cX4_joinFewest 30 = .ok (.aload_n 0, 1) := by decide +kernel
theorem dX4_joinFewest_31 : decode cX4_joinFewest 31 = .ok (.getfield 27, 3) := by decide +kernel
theorem dX4_joinFewest_34 : decode cX4_joinFewest 34 = .ok (.iload 5, 2) := by decide +kernel
theorem dX4_joinFewest_36 : decode cX4_joinFewest 36 = .ok (.iaload, 1) := by decide +kernel
theorem dX4_joinFewest_37 : decode cX4_joinFewest 37 = .ok (.aload_n 0, 1) := by decide +kernel
theorem dX4_joinFewest_38 : decode cX4_joinFewest 38 = .ok (.getfield 27, 3) := by decide +kernel
theorem dX4_joinFewest_41 : decode cX4_joinFewest 41 = .ok (.iload 5, 2) := by decide +kernel
theorem dX4_joinFewest_43 : decode cX4_joinFewest 43 = .ok (.iconst 1, 1) := by decide +kernel
theorem dX4_joinFewest_44 : decode cX4_joinFewest 44 = .ok (.iadd, 1) := by decide +kernel
theorem dX4_joinFewest_45 : decode cX4_joinFewest 45 = .ok (.iaload, 1) := by decide +kernel
theorem dX4_joinFewest_46 : decode cX4_joinFewest 46 = .ok (.iadd, 1) := by decide +kernel
theorem dX4_joinFewest_47 : decode cX4_joinFewest 47 = .ok (.aload_n 0, 1) := by decide +kernel
theorem dX4_joinFewest_48 : decode cX4_joinFewest 48 = .ok (.getfield 27, 3) := by decide +kernel
theorem dX4_joinFewest_51 : decode cX4_joinFewest 51 = .ok (.iload 4, 2) := by decide +kernel
theorem dX4_joinFewest_53 : decode cX4_joinFewest 53 = .ok (.iaload, 1) := by decide +kernel
theorem dX4_joinFewest_54 : decode cX4_joinFewest 54 = .ok (.aload_n 0, 1) := by decide +kernel
theorem dX4_joinFewest_55 : decode cX4_joinFewest 55 = .ok (.getfield 27, 3) := by decide +kernel
theorem dX4_joinFewest_58 : decode cX4_joinFewest 58 = .ok (.iload 4, 2) := by decide +kernel
theorem dX4_joinFewest_60 : decode cX4_joinFewest 60 = .ok (.iconst 1, 1) := by decide +kernel
theorem dX4_joinFewest_61 : decode cX4_joinFewest 61 = .ok (.iadd, 1) := by decide +kernel
theorem dX4_joinFewest_62 : decode cX4_joinFewest 62 = .ok (.iaload, 1) := by decide +kernel
theorem dX4_joinFewest_63 : decode cX4_joinFewest 63 = .ok (.iadd, 1) := by decide +kernel
theorem dX4_joinFewest_64 : decode cX4_joinFewest 64 = .ok (.if_icmp .ge 7, 3) := by decide +kernel
theorem dX4_joinFewest_67 : decode cX4_joinFewest 67 = .ok (.iload 5, 2) := by decide +kernel
theorem dX4_joinFewest_69 : decode cX4_joinFewest 69 = .ok (.istore 4, 2) := by decide +kernel
theorem dX4_joinFewest_71 : decode cX4_joinFewest 71 = .ok (.iinc 5 1, 3) := by decide +kernel
theorem dX4_joinFewest_74 : decode cX4_joinFewest 74 = .ok (.goto (-52), 3) := by decide +kernel
theorem dX4_joinFewest_77 : decode cX4_joinFewest 77 = .ok (.aload_n 0, 1) := by decide +kernel
theorem dX4_joinFewest_78 : decode cX4_joinFewest 78 = .ok (.getfield 24, 3) := by decide +kernel
theorem dX4_joinFewest_81 : decode cX4_joinFewest 81 = .ok (.iload 4, 2) := by decide +kernel
theorem dX4_joinFewest_83 : decode cX4_joinFewest 83 = .ok (.aload_n 0, 1) := by decide +kernel
theorem dX4_joinFewest_84 : decode cX4_joinFewest 84 = .ok (.getfield 24, 3) := by decide +kernel
theorem dX4_joinFewest_87 : decode cX4_joinFewest 87 = .ok (.iload 4, 2) := by decide +kernel
theorem dX4_joinFewest_89 : decode cX4_joinFewest 89 = .ok (.iconst 1, 1) := by decide +kernel
theorem dX4_joinFewest_90 : decode cX4_joinFewest 90 = .ok (.iadd, 1) := by decide +kernel
theorem dX4_joinFewest_91 : decode cX4_joinFewest 91 = .ok (.iaload, 1) := by decide +kernel
theorem dX4_joinFewest_92 : decode cX4_joinFewest 92 = .ok (.iastore, 1) := by decide +kernel
theorem dX4_joinFewest_93 : decode cX4_joinFewest 93 = .ok (.aload_n 0, 1) := by decide +kernel
theorem dX4_joinFewest_94 : decode cX4_joinFewest 94 = .ok (.getfield 27, 3) := by decide +kernel
theorem dX4_joinFewest_97 : decode cX4_joinFewest 97 = .ok (.iload 4, 2) := by decide +kernel
theorem dX4_joinFewest_99 : decode cX4_joinFewest 99 = .ok (.dup2, 1) := by decide +kernel
theorem dX4_joinFewest_100 : decode cX4_joinFewest 100 = .ok (.iaload, 1) := by decide +kernel
theorem dX4_joinFewest_101 : decode cX4_joinFewest 101 = .ok (.aload_n 0, 1) := by decide +kernel
theorem dX4_joinFewest_102 : decode cX4_joinFewest 102 = .ok (.getfield 27, 3) := by decide +kernel
theorem dX4_joinFewest_105 : decode cX4_joinFewest 105 = .ok (.iload 4, 2) := by decide +kernel
theorem dX4_joinFewest_107 : decode cX4_joinFewest 107 = .ok (.iconst 1, 1) := by decide +kernel
theorem dX4_joinFewest_108 : decode cX4_joinFewest 108 = .ok (.iadd, 1) := by decide +kernel
theorem dX4_joinFewest_109 : decode cX4_joinFewest 109 = .ok (.iaload, 1) := by decide +kernel
theorem dX4_joinFewest_110 : decode cX4_joinFewest 110 = .ok (.iadd, 1) := by decide +kernel
theorem dX4_joinFewest_111 : decode cX4_joinFewest 111 = .ok (.iastore, 1) := by decide +kernel
theorem dX4_joinFewest_112 : decode cX4_joinFewest 112 = .ok (.iload 4, 2) := by decide +kernel
theorem dX4_joinFewest_114 : decode cX4_joinFewest 114 = .ok (.iconst 1, 1) := by decide +kernel
theorem dX4_joinFewest_115 : decode cX4_joinFewest 115 = .ok (.iadd, 1) := by decide +kernel
theorem dX4_joinFewest_116 : decode cX4_joinFewest 116 = .ok (.istore 5, 2) := by decide +kernel
theorem dX4_joinFewest_118 : decode cX4_joinFewest 118 = .ok (.iload 5, 2) := by decide +kernel
theorem dX4_joinFewest_120 : decode cX4_joinFewest 120 = .ok (.iconst 1, 1) := by decide +kernel
theorem dX4_joinFewest_121 : decode cX4_joinFewest 121 = .ok (.iadd, 1) := by decide +kernel
theorem dX4_joinFewest_122 : decode cX4_joinFewest 122 = .ok (.iload_n 3, 1) := by decide +kernel
theorem dX4_joinFewest_123 : decode cX4_joinFewest 123 = .ok (.if_icmp .ge 57, 3) := by decide +kernel
theorem dX4_joinFewest_126 : decode cX4_joinFewest 126 = .ok (.aload_n 0, 1) := by decide +kernel
theorem dX4_joinFewest_127 : decode cX4_joinFewest 127 = .ok (.getfield 21, 3) := by decide +kernel
theorem dX4_joinFewest_130 : decode cX4_joinFewest 130 = .ok (.iload 5, 2) := by decide +kernel
theorem dX4_joinFewest_132 : decode cX4_joinFewest 132 = .ok (.aload_n 0, 1) := by decide +kernel
theorem dX4_joinFewest_133 : decode cX4_joinFewest 133 = .ok (.getfield 21, 3) := by decide +kernel
theorem dX4_joinFewest_136 : decode cX4_joinFewest 136 = .ok (.iload 5, 2) := by decide +kernel
theorem dX4_joinFewest_138 : decode cX4_joinFewest 138 = .ok (.iconst 1, 1) := by decide +kernel
theorem dX4_joinFewest_139 : decode cX4_joinFewest 139 = .ok (.iadd, 1) := by decide +kernel
theorem dX4_joinFewest_140 : decode cX4_joinFewest 140 = .ok (.iaload, 1) := by decide +kernel
theorem dX4_joinFewest_141 : decode cX4_joinFewest 141 = .ok (.iastore, 1) := by decide +kernel
theorem dX4_joinFewest_142 : decode cX4_joinFewest 142 = .ok (.aload_n 0, 1) := by decide +kernel
theorem dX4_joinFewest_143 : decode cX4_joinFewest 143 = .ok (.getfield 24, 3) := by decide +kernel
theorem dX4_joinFewest_146 : decode cX4_joinFewest 146 = .ok (.iload 5, 2) := by decide +kernel
theorem dX4_joinFewest_148 : decode cX4_joinFewest 148 = .ok (.aload_n 0, 1) := by decide +kernel
theorem dX4_joinFewest_149 : decode cX4_joinFewest 149 = .ok (.getfield 24, 3) := by decide +kernel
theorem dX4_joinFewest_152 : decode cX4_joinFewest 152 = .ok (.iload 5, 2) := by decide +kernel
theorem dX4_joinFewest_154 : decode cX4_joinFewest 154 = .ok (.iconst 1, 1) := by decide +kernel
theorem dX4_joinFewest_155 : decode cX4_joinFewest 155 = .ok (.iadd, 1) := by decide +kernel
theorem dX4_joinFewest_156 : decode cX4_joinFewest 156 = .ok (.iaload, 1) := by decide +kernel
theorem dX4_joinFewest_157 : decode cX4_joinFewest 157 = .ok (.iastore, 1) := by decide +kernel
theorem dX4_joinFewest_158 : decode cX4_joinFewest 158 = .ok (.aload_n 0, 1) := by decide +kernel
theorem dX4_joinFewest_159 : decode cX4_joinFewest 159 = .ok (.getfield 27, 3) := by decide +kernel
theorem dX4_joinFewest_162 : decode cX4_joinFewest 162 = .ok (.iload 5, 2) := by decide +kernel
theorem dX4_joinFewest_164 : decode cX4_joinFewest 164 = .ok (.aload_n 0, 1) := by decide +kernel
theorem dX4_joinFewest_165 : decode cX4_joinFewest 165 = .ok (.getfield 27, 3) := by decide +kernel
theorem dX4_joinFewest_168 : decode cX4_joinFewest 168 = .ok (.iload 5, 2) := by decide +kernel
theorem dX4_joinFewest_170 : decode cX4_joinFewest 170 = .ok (.iconst 1, 1) := by decide +kernel
theorem dX4_joinFewest_171 : decode cX4_joinFewest 171 = .ok (.iadd, 1) := by decide +kernel
theorem dX4_joinFewest_172 : decode cX4_joinFewest 172 = .ok (.iaload, 1) := by decide +kernel
theorem dX4_joinFewest_173 : decode cX4_joinFewest 173 = .ok (.iastore, 1) := by decide +kernel
theorem dX4_joinFewest_174 : decode cX4_joinFewest 174 = .ok (.iinc 5 1, 3) := by decide +kernel
theorem dX4_joinFewest_177 : decode cX4_joinFewest 177 = .ok (.goto (-59), 3) := by decide +kernel
theorem dX4_joinFewest_180 : decode cX4_joinFewest 180 = .ok (.aload_n 0, 1) := by decide +kernel
theorem dX4_joinFewest_181 : decode cX4_joinFewest 181 = .ok (.getfield 18, 3) := by decide +kernel
theorem dX4_joinFewest_184 : decode cX4_joinFewest 184 = .ok (.iload_n 1, 1) := by decide +kernel
theorem dX4_joinFewest_185 : decode cX4_joinFewest 185 = .ok (.dup2, 1) := by decide +kernel
theorem dX4_joinFewest_186 : decode cX4_joinFewest 186 = .ok (.iaload, 1) := by decide +kernel
theorem dX4_joinFewest_187 : decode cX4_joinFewest 187 = .ok (.iconst 1, 1) := by decide +kernel
theorem dX4_joinFewest_188 : decode cX4_joinFewest 188 = .ok (.isub, 1) := by decide +kernel
theorem dX4_joinFewest_189 : decode cX4_joinFewest 189 = .ok (.iastore, 1) := by decide +kernel
theorem dX4_joinFewest_190 : decode cX4_joinFewest 190 = .ok (.return_, 1) := by decide +kernel
theorem dX5_init_0 : decode cX5_init 0 = .ok (.aload_n 0, 1) := by decide +kernel
theorem dX5_init_1 : decode cX5_init 1 = .ok (.invokespecial 3, 3) := by decide +kernel
theorem dX5_init_4 : decode cX5_init 4 = .ok (.aload_n 0, 1) := by decide +kernel
theorem dX5_init_5 : decode cX5_init 5 = .ok (.sipush 160, 3) := by decide +kernel
theorem dX5_init_8 : decode cX5_init 8 = .ok (.newarray .int, 2) := by decide +kernel
theorem dX5_init_10 : decode cX5_init 10 = .ok (.putfield 9, 3) := by decide +kernel
theorem dX5_init_13 : decode cX5_init 13 = .ok (.aload_n 0, 1) := by decide +kernel
theorem dX5_init_14 : decode cX5_init 14 = .ok (.new 15, 3) := by decide +kernel
theorem dX5_init_17 : decode cX5_init 17 = .ok (.dup, 1) := by decide +kernel
theorem dX5_init_18 : decode cX5_init 18 = .ok (.invokespecial 17, 3) := by decide +kernel
theorem dX5_init_21 : decode cX5_init 21 = .ok (.putfield 18, 3) := by decide +kernel
theorem dX5_init_24 : decode cX5_init 24 = .ok (.return_, 1) := by decide +kernel
theorem dX6_init_0 : decode cX6_init 0 = .ok (.aload_n 0, 1) := by decide +kernel
theorem dX6_init_1 : decode cX6_init 1 = .ok (.invokespecial 1, 3) := by decide +kernel
theorem dX6_init_4 : decode cX6_init 4 = .ok (.aload_n 0, 1) := by decide +kernel
theorem dX6_init_5 : decode cX6_init 5 = .ok (.new 7, 3) := by decide +kernel
theorem dX6_init_8 : decode cX6_init 8 = .ok (.dup, 1) := by decide +kernel
theorem dX6_init_9 : decode cX6_init 9 = .ok (.invokespecial 9, 3) := by decide +kernel
theorem dX6_init_12 : decode cX6_init 12 = .ok (.putfield 10, 3) := by decide +kernel
theorem dX6_init_15 : decode cX6_init 15 = .ok (.aload_n 0, 1) := by decide +kernel
theorem dX6_init_16 : decode cX6_init 16 = .ok (.new 16, 3) := by decide +kernel
theorem dX6_init_19 : decode cX6_init 19 = .ok (.dup, 1) := by decide +kernel
theorem dX6_init_20 : decode cX6_init 20 = .ok (.invokespecial 18, 3) := by decide +kernel
theorem dX6_init_23 : decode cX6_init 23 = .ok (.putfield 19, 3) := by decide +kernel
theorem dX6_init_26 : decode cX6_init 26 = .ok (.aload_n 0, 1) := by decide +kernel
theorem dX6_init_27 : decode cX6_init 27 = .ok (.new 7, 3) := by decide +kernel
theorem dX6_init_30 : decode cX6_init 30 = .ok (.dup, 1) := by decide +kernel
theorem dX6_init_31 : decode cX6_init 31 = .ok (.invokespecial 9, 3) := by decide +kernel
theorem dX6_init_34 : decode cX6_init 34 = .ok (.putfield 23, 3) := by decide +kernel
theorem dX6_init_37 : decode cX6_init 37 = .ok (.aload_n 0, 1) := by decide +kernel
theorem dX6_init_38 : decode cX6_init 38 = .ok (.new 16, 3) := by decide +kernel
theorem dX6_init_41 : decode cX6_init 41 = .ok (.dup, 1) := by decide +kernel
theorem dX6_init_42 : decode cX6_init 42 = .ok (.invokespecial 18, 3) := by decide +kernel
theorem dX6_init_45 : decode cX6_init 45 = .ok (.putfield 26, 3) := by decide +kernel
theorem dX6_init_48 : decode cX6_init 48 = .ok (.aload_n 0, 1) := by decide +kernel
theorem dX6_init_49 : decode cX6_init 49 = .ok (.new 29, 3) := by decide +kernel
theorem dX6_init_52 : decode cX6_init 52 = .ok (.dup, 1) := by decide +kernel
theorem dX6_init_53 : decode cX6_init 53 = .ok (.invokespecial 31, 3) := by decide +kernel
theorem dX6_init_56 : decode cX6_init 56 = .ok (.putfield 32, 3) := by decide +kernel
theorem dX6_init_59 : decode cX6_init 59 = .ok (.aload_n 0, 1) := by decide +kernel
theorem dX6_init_60 : decode cX6_init 60 = .ok (.iconst 4, 1) := by decide +kernel
theorem dX6_init_61 : decode cX6_init 61 = .ok (.anewarray 7, 3) := by decide +kernel
theorem dX6_init_64 : decode cX6_init 64 = .ok (.putfield 36, 3) := by decide +kernel
theorem dX6_init_67 : decode cX6_init 67 = .ok (.iconst 0, 1) := by decide +kernel
theorem dX6_init_68 : decode cX6_init 68 = .ok (.istore_n 1, 1) := by decide +kernel
theorem dX6_init_69 : decode cX6_init 69 = .ok (.iload_n 1, 1) := by decide +kernel
theorem dX6_init_70 : decode cX6_init 70 = .ok (.iconst 4, 1) := by decide +kernel
theorem dX6_init_71 : decode cX6_init 71 = .ok (.if_icmp .ge 22, 3) := by decide +kernel
theorem dX6_init_74 : decode cX6_init 74 = .ok (.aload_n 0, 1) := by decide +kernel
theorem dX6_init_75 : decode cX6_init 75 = .ok (.getfield 36, 3) := by decide +kernel
theorem dX6_init_78 : decode cX6_init 78 = .ok (.iload_n 1, 1) := by decide +kernel
theorem dX6_init_79 : decode cX6_init 79 = .ok (.new 7, 3) := by decide +kernel
theorem dX6_init_82 : decode cX6_init 82 = .ok (.dup, 1) := by decide +kernel
theorem dX6_init_83 : decode cX6_init 83 = .ok (.invokespecial 9, 3) := by decide +kernel
theorem dX6_init_86 : decode cX6_init 86 = .ok (.aastore, 1) := by decide +kernel
theorem dX6_init_87 : decode cX6_init 87 = .ok (.iinc 1 1, 3) := by decide +kernel
theorem dX6_init_90 : decode cX6_init 90 = .ok (.goto (-21), 3) := by decide +kernel
theorem dX6_init_93 : decode cX6_init 93 = .ok (.return_, 1) := by decide +kernel
theorem dX6_addSign_0 : decode cX6_addSign 0 = .ok (.iload_n 1, 1) := by decide +kernel
theorem dX6_addSign_1 : decode cX6_addSign 1 = .ok (.invokestatic 40, 3) := by decide +kernel
theorem dX6_addSign_4 : decode cX6_addSign 4 = .ok (.iload_n 2, 1) := by decide +kernel
theorem dX6_addSign_5 : decode cX6_addSign 5 = .ok (.sipush 200, 3) := by decide +kernel
theorem dX6_addSign_8 : decode cX6_addSign 8 = .ok (.invokestatic 44, 3) := by decide +kernel
theorem dX6_addSign_11 : decode cX6_addSign 11 = .ok (.iload_n 3, 1) := by decide +kernel
theorem dX6_addSign_12 : decode cX6_addSign 12 = .ok (.sipush 200, 3) := by decide +kernel
theorem dX6_addSign_15 : decode cX6_addSign 15 = .ok (.invokestatic 44, 3) := by decide +kernel
theorem dX6_addSign_18 : decode cX6_addSign 18 = .ok (.iload 4, 2) := by decide +kernel
theorem dX6_addSign_20 : decode cX6_addSign 20 = .ok (.sipush 10000, 3) := by decide +kernel
theorem dX6_addSign_23 : decode cX6_addSign 23 = .ok (.invokestatic 44, 3) := by decide +kernel
theorem dX6_addSign_26 : decode cX6_addSign 26 = .ok (.iload 5, 2) := by decide +kernel
theorem dX6_addSign_28 : decode cX6_addSign 28 = .ok (.bipush 6, 2) := by decide +kernel
theorem dX6_addSign_30 : decode cX6_addSign 30 = .ok (.invokestatic 44, 3) := by decide +kernel
theorem dX6_addSign_33 : decode cX6_addSign 33 = .ok (.aload_n 0, 1) := by decide +kernel
theorem dX6_addSign_34 : decode cX6_addSign 34 = .ok (.getfield 10, 3) := by decide +kernel
theorem dX6_addSign_37 : decode cX6_addSign 37 = .ok (.getfield 48, 3) := by decide +kernel
theorem dX6_addSign_40 : decode cX6_addSign 40 = .ok (.bipush 40, 2) := by decide +kernel
theorem dX6_addSign_42 : decode cX6_addSign 42 = .ok (.if_icmp .lt 13, 3) := by decide +kernel
theorem dX6_addSign_45 : decode cX6_addSign 45 = .ok (.new 52, 3) := by decide +kernel
theorem dX6_addSign_48 : decode cX6_addSign 48 = .ok (.dup, 1) := by decide +kernel
theorem dX6_addSign_49 : decode cX6_addSign 49 = .ok (.ldc 54, 2) := by decide +kernel
theorem dX6_addSign_51 : decode cX6_addSign 51 = .ok (.invokespecial 56, 3) := by decide +kernel
theorem dX6_addSign_54 : decode cX6_addSign 54 = .ok (.athrow, 1) := by decide +kernel
theorem dX6_addSign_55 : decode cX6_addSign 55 = .ok (.aload_n 0, 1) := by decide +kernel
theorem dX6_addSign_56 : decode cX6_addSign 56 = .ok (.invokevirtual 59, 3) := by decide +kernel
theorem dX6_addSign_59 : decode cX6_addSign 59 = .ok (.aload_n 0, 1) := by decide +kernel
theorem dX6_addSign_60 : decode cX6_addSign 60 = .ok (.getfield 10, 3) := by decide +kernel
theorem dX6_addSign_63 : decode cX6_addSign 63 = .ok (.iload_n 1, 1) := by decide +kernel
theorem dX6_addSign_64 : decode cX6_addSign 64 = .ok (.iload_n 2, 1) := by decide +kernel
theorem dX6_addSign_65 : decode cX6_addSign 65 = .ok (.iload_n 3, 1) := by decide +kernel
theorem dX6_addSign_66 : decode cX6_addSign 66 = .ok (.iload 4, 2) := by decide +kernel
theorem dX6_addSign_68 : decode cX6_addSign 68 = .ok (.iload 5, 2) := by decide +kernel
theorem dX6_addSign_70 : decode cX6_addSign 70 = .ok (.invokevirtual 62, 3) := by decide +kernel
theorem dX6_addSign_73 : decode cX6_addSign 73 = .ok (.aload_n 0, 1) := by decide +kernel
theorem dX6_addSign_74 : decode cX6_addSign 74 = .ok (.getfield 10, 3) := by decide +kernel
theorem dX6_addSign_77 : decode cX6_addSign 77 = .ok (.getfield 48, 3) := by decide +kernel
theorem dX6_addSign_80 : decode cX6_addSign 80 = .ok (.iconst 1, 1) := by decide +kernel
theorem dX6_addSign_81 : decode cX6_addSign 81 = .ok (.isub, 1) := by decide +kernel
theorem dX6_addSign_82 : decode cX6_addSign 82 = .ok (.ireturn, 1) := by decide +kernel
theorem dX6_removeSign_0 : decode cX6_removeSign 0 = .ok (.aload_n 0, 1) := by decide +kernel
theorem dX6_removeSign_1 : decode cX6_removeSign 1 = .ok (.iload_n 1, 1) := by decide +kernel
theorem dX6_removeSign_2 : decode cX6_removeSign 2 = .ok (.invokevirtual 66, 3) := by decide +kernel
theorem dX6_removeSign_5 : decode cX6_removeSign 5 = .ok (.aload_n 0, 1) := by decide +kernel
theorem dX6_removeSign_6 : decode cX6_removeSign 6 = .ok (.invokevirtual 59, 3) := by decide +kernel
theorem dX6_removeSign_9 : decode cX6_removeSign 9 = .ok (.aload_n 0, 1) := by decide +kernel
theorem dX6_removeSign_10 : decode cX6_removeSign 10 = .ok (.getfield 10, 3) := by decide +kernel
theorem dX6_removeSign_13 : decode cX6_removeSign 13 = .ok (.iload_n 1, 1) := by decide +kernel
theorem dX6_removeSign_14 : decode cX6_removeSign 14 = .ok (.invokevirtual 69, 3) := by decide +kernel
theorem dX6_removeSign_17 : decode cX6_removeSign 17 = .ok (.aload_n 0, 1) := by decide +kernel
theorem dX6_removeSign_18 : decode cX6_removeSign 18 = .ok (.getfield 10, 3) := by decide +kernel
theorem dX6_removeSign_21 : decode cX6_removeSign 21 = .ok (.getfield 48, 3) := by decide +kernel
theorem dX6_removeSign_24 : decode cX6_removeSign 24 = .ok (.ireturn, 1) := by decide +kernel
theorem dX6_moveSign_0 : decode cX6_moveSign 0 = .ok (.aload_n 0, 1) := by decide +kernel
theorem dX6_moveSign_1 : decode cX6_moveSign 1 = .ok (.iload_n 1, 1) := by decide +kernel
theorem dX6_moveSign_2 : decode cX6_moveSign 2 = .ok (.invokevirtual 66, 3) := by decide +kernel
theorem dX6_moveSign_5 : decode cX6_moveSign 5 = .ok (.iload_n 2, 1) := by decide +kernel
theorem dX6_moveSign_6 : decode cX6_moveSign 6 = .ok (.sipush 200, 3) := by decide +kernel
theorem dX6_moveSign_9 : decode cX6_moveSign 9 = .ok (.invokestatic 44, 3) := by decide +kernel
theorem dX6_moveSign_12 : decode cX6_moveSign 12 = .ok (.iload_n 3, 1) := by decide +kernel
theorem dX6_moveSign_13 : decode cX6_moveSign 13 = .ok (.sipush 200, 3) := by decide +kernel
theorem dX6_moveSign_16 : decode cX6_moveSign 16 = .ok (.invokestatic 44, 3) := by decide +kernel
theorem dX6_moveSign_19 : decode cX6_moveSign 19 = .ok (.aload_n 0, 1) := by decide +kernel
theorem dX6_moveSign_20 : decode cX6_moveSign 20 = .ok (.invokevirtual 59, 3) := by decide +kernel
theorem dX6_moveSign_23 : decode cX6_moveSign 23 = .ok (.aload_n 0, 1) := by decide +kernel
theorem dX6_moveSign_24 : decode cX6_moveSign 24 = .ok (.getfield 10, 3) := by decide +kernel
theorem dX6_moveSign_27 : decode cX6_moveSign 27 = .ok (.getfield 72, 3) := by decide +kernel
theorem dX6_moveSign_30 : decode cX6_moveSign 30 = .ok (.iload_n 1, 1) := by decide +kernel
theorem dX6_moveSign_31 : decode cX6_moveSign 31 = .ok (.iaload, 1) := by decide +kernel
theorem dX6_moveSign_32 : decode cX6_moveSign 32 = .ok (.istore 4, 2) := by decide +kernel
theorem dX6_moveSign_34 : decode cX6_moveSign 34 = .ok (.aload_n 0, 1) := by decide +kernel
theorem dX6_moveSign_35 : decode cX6_moveSign 35 = .ok (.getfield 10, 3) := by decide +kernel
theorem dX6_moveSign_38 : decode cX6_moveSign 38 = .ok (.getfield 72, 3) := by decide +kernel
theorem dX6_moveSign_41 : decode cX6_moveSign 41 = .ok (.iload_n 1, 1) := by decide +kernel
theorem dX6_moveSign_42 : decode cX6_moveSign 42 = .ok (.iload_n 2, 1) := by decide +kernel
theorem dX6_moveSign_43 : decode cX6_moveSign 43 = .ok (.iastore, 1) := by decide +kernel
theorem dX6_moveSign_44 : decode cX6_moveSign 44 = .ok (.aload_n 0, 1) := by decide +kernel
theorem dX6_moveSign_45 : decode cX6_moveSign 45 = .ok (.getfield 10, 3) := by decide +kernel
theorem dX6_moveSign_48 : decode cX6_moveSign 48 = .ok (.getfield 76, 3) := by decide +kernel
theorem dX6_moveSign_51 : decode cX6_moveSign 51 = .ok (.iload_n 1, 1) := by decide +kernel
theorem dX6_moveSign_52 : decode cX6_moveSign 52 = .ok (.iload_n 3, 1) := by decide +kernel
theorem dX6_moveSign_53 : decode cX6_moveSign 53 = .ok (.iastore, 1) := by decide +kernel
theorem dX6_moveSign_54 : decode cX6_moveSign 54 = .ok (.iload 4, 2) := by decide +kernel
theorem dX6_moveSign_56 : decode cX6_moveSign 56 = .ok (.ireturn, 1) := by decide +kernel
theorem dX6_setWindow_0 : decode cX6_setWindow 0 = .ok (.iload_n 1, 1) := by decide +kernel
theorem dX6_setWindow_1 : decode cX6_setWindow 1 = .ok (.sipush 200, 3) := by decide +kernel
theorem dX6_setWindow_4 : decode cX6_setWindow 4 = .ok (.invokestatic 44, 3) := by decide +kernel
theorem dX6_setWindow_7 : decode cX6_setWindow 7 = .ok (.iload_n 2, 1) := by decide +kernel
theorem dX6_setWindow_8 : decode cX6_setWindow 8 = .ok (.sipush 200, 3) := by decide +kernel
theorem dX6_setWindow_11 : decode cX6_setWindow 11 = .ok (.invokestatic 44, 3) := by decide +kernel
theorem dX6_setWindow_14 : decode cX6_setWindow 14 = .ok (.iload_n 3, 1) := by decide +kernel
theorem dX6_setWindow_15 : decode cX6_setWindow 15 = .ok (.invokestatic 79, 3) := by decide +kernel
theorem dX6_setWindow_18 : decode cX6_setWindow 18 = .ok (.iload 4, 2) := by decide +kernel
theorem dX6_setWindow_20 : decode cX6_setWindow 20 = .ok (.invokestatic 79, 3) := by decide +kernel
theorem dX6_setWindow_23 : decode cX6_setWindow 23 = .ok (.iload 5, 2) := by decide +kernel
theorem dX6_setWindow_25 : decode cX6_setWindow 25 = .ok (.bipush 6, 2) := by decide +kernel
theorem dX6_setWindow_27 : decode cX6_setWindow 27 = .ok (.invokestatic 44, 3) := by decide +kernel
theorem dX6_setWindow_30 : decode cX6_setWindow 30 = .ok (.aload_n 0, 1) := by decide +kernel
theorem dX6_setWindow_31 : decode cX6_setWindow 31 = .ok (.invokevirtual 59, 3) := by decide +kernel
theorem dX6_setWindow_34 : decode cX6_setWindow 34 = .ok (.aload_n 0, 1) := by decide +kernel
theorem dX6_setWindow_35 : decode cX6_setWindow 35 = .ok (.getfield 10, 3) := by decide +kernel
theorem dX6_setWindow_38 : decode cX6_setWindow 38 = .ok (.getfield 82, 3) := by decide +kernel
theorem dX6_setWindow_41 : decode cX6_setWindow 41 = .ok (.iconst 0, 1) := by decide +kernel
theorem dX6_setWindow_42 : decode cX6_setWindow 42 = .ok (.iload_n 1, 1) := by decide +kernel
theorem dX6_setWindow_43 : decode cX6_setWindow 43 = .ok (.iastore, 1) := by decide +kernel
theorem dX6_setWindow_44 : decode cX6_setWindow 44 = .ok (.aload_n 0, 1) := by decide +kernel
theorem dX6_setWindow_45 : decode cX6_setWindow 45 = .ok (.getfield 10, 3) := by decide +kernel
theorem dX6_setWindow_48 : decode cX6_setWindow 48 = .ok (.getfield 82, 3) := by decide +kernel
theorem dX6_setWindow_51 : decode cX6_setWindow 51 = .ok (.iconst 1, 1) := by decide +kernel
theorem dX6_setWindow_52 : decode cX6_setWindow 52 = .ok (.iload_n 2, 1) := by decide +kernel
theorem dX6_setWindow_53 : decode cX6_setWindow 53 = .ok (.iastore, 1) := by decide +kernel
theorem dX6_setWindow_54 : decode cX6_setWindow 54 = .ok (.aload_n 0, 1) := by decide +kernel
theorem dX6_setWindow_55 : decode cX6_setWindow 55 = .ok (.getfield 10, 3) := by decide +kernel
theorem dX6_setWindow_58 : decode cX6_setWindow 58 = .ok (.getfield 82, 3) := by decide +kernel
theorem dX6_setWindow_61 : decode cX6_setWindow 61 = .ok (.iconst 2, 1) := by decide +kernel
theorem dX6_setWindow_62 : decode cX6_setWindow 62 = .ok (.iload_n 3, 1) := by decide +kernel
theorem dX6_setWindow_63 : decode cX6_setWindow 63 = .ok (.iastore, 1) := by decide +kernel
theorem dX6_setWindow_64 : decode cX6_setWindow 64 = .ok (.aload_n 0, 1) := by decide +kernel
theorem dX6_setWindow_65 : decode cX6_setWindow 65 = .ok (.getfield 10, 3) := by decide +kernel
theorem dX6_setWindow_68 : decode cX6_setWindow 68 = .ok (.getfield 82, 3) := by decide +kernel
theorem dX6_setWindow_71 : decode cX6_setWindow 71 = .ok (.iconst 3, 1) := by decide +kernel
theorem dX6_setWindow_72 : decode cX6_setWindow 72 = .ok (.iload 4, 2) := by decide +kernel
theorem dX6_setWindow_74 : decode cX6_setWindow 74 = .ok (.iastore, 1) := by decide +kernel
theorem dX6_setWindow_75 : decode cX6_setWindow 75 = .ok (.aload_n 0, 1) := by decide +kernel
theorem dX6_setWindow_76 : decode cX6_setWindow 76 = .ok (.getfield 10, 3) := by decide +kernel
theorem dX6_setWindow_79 : decode cX6_setWindow 79 = .ok (.getfield 82, 3) := by decide +kernel
theorem dX6_setWindow_82 : decode cX6_setWindow 82 = .ok (.iconst 4, 1) := by decide +kernel
theorem dX6_setWindow_83 : decode cX6_setWindow 83 = .ok (.iload 5, 2) := by decide +kernel
theorem dX6_setWindow_85 : decode cX6_setWindow 85 = .ok (.iastore, 1) := by decide +kernel
theorem dX6_setWindow_86 : decode cX6_setWindow 86 = .ok (.aload_n 0, 1) := by decide +kernel
theorem dX6_setWindow_87 : decode cX6_setWindow 87 = .ok (.getfield 10, 3) := by decide +kernel
theorem dX6_setWindow_90 : decode cX6_setWindow 90 = .ok (.invokevirtual 85, 3) := by decide +kernel
theorem dX6_setWindow_93 : decode cX6_setWindow 93 = .ok (.ireturn, 1) := by decide +kernel
theorem dX6_set_0 : decode cX6_set 0 = .ok (.iload_n 1, 1) := by decide +kernel
theorem dX6_set_1 : decode cX6_set 1 = .ok (.iconst 4, 1) := by decide +kernel
theorem dX6_set_2 : decode cX6_set 2 = .ok (.invokestatic 44, 3) := by decide +kernel
theorem dX6_set_5 : decode cX6_set 5 = .ok (.iload_n 2, 1) := by decide +kernel
theorem dX6_set_6 : decode cX6_set 6 = .ok (.iconst 1, 1) := by decide +kernel
theorem dX6_set_7 : decode cX6_set 7 = .ok (.if_icmp .lt 12, 3) := by decide +kernel
theorem dX6_set_10 : decode cX6_set 10 = .ok (.iload_n 2, 1) := by decide +kernel
theorem dX6_set_11 : decode cX6_set 11 = .ok (.getstatic 89, 3) := by decide +kernel
theorem dX6_set_14 : decode cX6_set 14 = .ok (.iload_n 1, 1) := by decide +kernel
theorem dX6_set_15 : decode cX6_set 15 = .ok (.iaload, 1) := by decide +kernel
theorem dX6_set_16 : decode cX6_set 16 = .ok (.if_icmp .le 13, 3) := by decide +kernel
theorem dX6_set_19 : decode cX6_set 19 = .ok (.new 92, 3) := by decide +kernel
theorem dX6_set_22 : decode cX6_set 22 = .ok (.dup, 1) := by decide +kernel
theorem dX6_set_23 : decode cX6_set 23 = .ok (.ldc 94, 2) := by decide +kernel
theorem dX6_set_25 : decode cX6_set 25 = .ok (.invokespecial 96, 3) := by decide +kernel
theorem dX6_set_28 : decode cX6_set 28 = .ok (.athrow, 1) := by decide +kernel
theorem dX6_set_29 : decode cX6_set 29 = .ok (.aload_n 0, 1) := by decide +kernel
theorem dX6_set_30 : decode cX6_set 30 = .ok (.invokevirtual 59, 3) := by decide +kernel
theorem dX6_set_33 : decode cX6_set 33 = .ok (.aload_n 0, 1) := by decide +kernel
theorem dX6_set_34 : decode cX6_set 34 = .ok (.getfield 10, 3) := by decide +kernel
theorem dX6_set_37 : decode cX6_set 37 = .ok (.getfield 97, 3) := by decide +kernel
theorem dX6_set_40 : decode cX6_set 40 = .ok (.iload_n 1, 1) := by decide +kernel
theorem dX6_set_41 : decode cX6_set 41 = .ok (.iaload, 1) := by decide +kernel
theorem dX6_set_42 : decode cX6_set 42 = .ok (.istore_n 3, 1) := by decide +kernel
theorem dX6_set_43 : decode cX6_set 43 = .ok (.aload_n 0, 1) := by decide +kernel
theorem dX6_set_44 : decode cX6_set 44 = .ok (.getfield 10, 3) := by decide +kernel
theorem dX6_set_47 : decode cX6_set 47 = .ok (.getfield 97, 3) := by decide +kernel
theorem dX6_set_50 : decode cX6_set 50 = .ok (.iload_n 1, 1) := by decide +kernel
theorem dX6_set_51 : decode cX6_set 51 = .ok (.iload_n 2, 1) := by decide +kernel
theorem dX6_set_52 : decode cX6_set 52 = .ok (.iastore, 1) := by decide +kernel
theorem dX6_set_53 : decode cX6_set 53 = .ok (.iload_n 3, 1) := by decide +kernel
theorem dX6_set_54 : decode cX6_set 54 = .ok (.ireturn, 1) := by decide +kernel
theorem dX6_setKind_0 : decode cX6_setKind 0 = .ok (.iload_n 1, 1) := by decide +kernel
theorem dX6_setKind_1 : decode cX6_setKind 1 = .ok (.invokestatic 40, 3) := by decide +kernel
theorem dX6_setKind_4 : decode cX6_setKind 4 = .ok (.iload_n 2, 1) := by decide +kernel
theorem dX6_setKind_5 : decode cX6_setKind 5 = .ok (.bipush 100, 2) := by decide +kernel
theorem dX6_setKind_7 : decode cX6_setKind 7 = .ok (.invokestatic 44, 3) := by decide +kernel
theorem dX6_setKind_10 : decode cX6_setKind 10 = .ok (.iload_n 3, 1) := by decide +kernel
theorem dX6_setKind_11 : decode cX6_setKind 11 = .ok (.iconst (-1), 1) := by decide +kernel
theorem dX6_setKind_12 : decode cX6_setKind 12 = .ok (.if_icmp .eq 8, 3) := by decide +kernel
theorem dX6_setKind_15 : decode cX6_setKind 15 = .ok (.iload_n 3, 1) := by decide +kernel
theorem dX6_setKind_16 : decode cX6_setKind 16 = .ok (.iconst 5, 1) := by decide +kernel
theorem dX6_setKind_17 : decode cX6_setKind 17 = .ok (.invokestatic 44, 3) := by decide +kernel
theorem dX6_setKind_20 : decode cX6_setKind 20 = .ok (.aload_n 0, 1) := by decide +kernel
theorem dX6_setKind_21 : decode cX6_setKind 21 = .ok (.invokevirtual 59, 3) := by decide +kernel
theorem dX6_setKind_24 : decode cX6_setKind 24 = .ok (.aload_n 0, 1) := by decide +kernel
theorem dX6_setKind_25 : decode cX6_setKind 25 = .ok (.getfield 10, 3) := by decide +kernel
theorem dX6_setKind_28 : decode cX6_setKind 28 = .ok (.getfield 100, 3) := by decide +kernel
theorem dX6_setKind_31 : decode cX6_setKind 31 = .ok (.iload_n 1, 1) := by decide +kernel
theorem dX6_setKind_32 : decode cX6_setKind 32 = .ok (.iaload, 1) := by decide +kernel
theorem dX6_setKind_33 : decode cX6_setKind 33 = .ok (.istore 4, 2) := by decide +kernel
theorem dX6_setKind_35 : decode cX6_setKind 35 = .ok (.aload_n 0, 1) := by decide +kernel
theorem dX6_setKind_36 : decode cX6_setKind 36 = .ok (.getfield 10, 3) := by decide +kernel
theorem dX6_setKind_39 : decode cX6_setKind 39 = .ok (.getfield 100, 3) := by decide +kernel
theorem dX6_setKind_42 : decode cX6_setKind 42 = .ok (.iload_n 1, 1) := by decide +kernel
theorem dX6_setKind_43 : decode cX6_setKind 43 = .ok (.iload_n 2, 1) := by decide +kernel
theorem dX6_setKind_44 : decode cX6_setKind 44 = .ok (.iastore, 1) := by decide +kernel
theorem dX6_setKind_45 : decode cX6_setKind 45 = .ok (.aload_n 0, 1) := by decide +kernel
theorem dX6_setKind_46 : decode cX6_setKind 46 = .ok (.getfield 10, 3) := by decide +kernel
theorem dX6_setKind_49 : decode cX6_setKind 49 = .ok (.getfield 103, 3) := by decide +kernel
theorem dX6_setKind_52 : decode cX6_setKind 52 = .ok (.iload_n 1, 1) := by decide +kernel
theorem dX6_setKind_53 : decode cX6_setKind 53 = .ok (.iload_n 3, 1) := by decide +kernel
theorem dX6_setKind_54 : decode cX6_setKind 54 = .ok (.iastore, 1) := by decide +kernel
theorem dX6_setKind_55 : decode cX6_setKind 55 = .ok (.iload 4, 2) := by decide +kernel
theorem dX6_setKind_57 : decode cX6_setKind 57 = .ok (.ireturn, 1) := by decide +kernel
theorem dX6_setWay_0 : decode cX6_setWay 0 = .ok (.iload_n 1, 1) := by decide +kernel
theorem dX6_setWay_1 : decode cX6_setWay 1 = .ok (.ifCond .lt 8, 3) := by decide +kernel
theorem dX6_setWay_4 : decode cX6_setWay 4 = .ok (.iload_n 1, 1) := by decide +kernel
theorem dX6_setWay_5 : decode cX6_setWay 5 = .ok (.iconst 5, 1) := by decide +kernel
theorem dX6_setWay_6 : decode cX6_setWay 6 = .ok (.if_icmp .lt 13, 3) := by decide +kernel
theorem dX6_setWay_9 : decode cX6_setWay 9 = .ok (.new 106, 3) := by decide +kernel
theorem dX6_setWay_12 : decode cX6_setWay 12 = .ok (.dup, 1) := by decide +kernel
theorem dX6_setWay_13 : decode cX6_setWay 13 = .ok (.ldc 108, 2) := by decide +kernel
theorem dX6_setWay_15 : decode cX6_setWay 15 = .ok (.invokespecial 110, 3) := by decide +kernel
theorem dX6_setWay_18 : decode cX6_setWay 18 = .ok (.athrow, 1) := by decide +kernel
theorem dX6_setWay_19 : decode cX6_setWay 19 = .ok (.iload_n 2, 1) := by decide +kernel
theorem dX6_setWay_20 : decode cX6_setWay 20 = .ok (.iconst 2, 1) := by decide +kernel
theorem dX6_setWay_21 : decode cX6_setWay 21 = .ok (.invokestatic 44, 3) := by decide +kernel
theorem dX6_setWay_24 : decode cX6_setWay 24 = .ok (.aload_n 0, 1) := by decide +kernel
theorem dX6_setWay_25 : decode cX6_setWay 25 = .ok (.invokevirtual 59, 3) := by decide +kernel
theorem dX6_setWay_28 : decode cX6_setWay 28 = .ok (.aload_n 0, 1) := by decide +kernel
theorem dX6_setWay_29 : decode cX6_setWay 29 = .ok (.getfield 10, 3) := by decide +kernel
theorem dX6_setWay_32 : decode cX6_setWay 32 = .ok (.getfield 111, 3) := by decide +kernel
theorem dX6_setWay_35 : decode cX6_setWay 35 = .ok (.iload_n 1, 1) := by decide +kernel
theorem dX6_setWay_36 : decode cX6_setWay 36 = .ok (.iaload, 1) := by decide +kernel
theorem dX6_setWay_37 : decode cX6_setWay 37 = .ok (.istore_n 3, 1) := by decide +kernel
theorem dX6_setWay_38 : decode cX6_setWay 38 = .ok (.aload_n 0, 1) := by decide +kernel
theorem dX6_setWay_39 : decode cX6_setWay 39 = .ok (.getfield 10, 3) := by decide +kernel
theorem dX6_setWay_42 : decode cX6_setWay 42 = .ok (.getfield 111, 3) := by decide +kernel
theorem dX6_setWay_45 : decode cX6_setWay 45 = .ok (.iload_n 1, 1) := by decide +kernel
theorem dX6_setWay_46 : decode cX6_setWay 46 = .ok (.iload_n 2, 1) := by decide +kernel
theorem dX6_setWay_47 : decode cX6_setWay 47 = .ok (.iastore, 1) := by decide +kernel
theorem dX6_setWay_48 : decode cX6_setWay 48 = .ok (.iload_n 3, 1) := by decide +kernel
theorem dX6_setWay_49 : decode cX6_setWay 49 = .ok (.ireturn, 1) := by decide +kernel
theorem dX6_limit_0 : decode cX6_limit 0 = .ok (.iload_n 1, 1) := by decide +kernel
theorem dX6_limit_1 : decode cX6_limit 1 = .ok (.invokestatic 40, 3) := by decide +kernel
theorem dX6_limit_4 : decode cX6_limit 4 = .ok (.iload_n 2, 1) := by decide +kernel
theorem dX6_limit_5 : decode cX6_limit 5 = .ok (.iconst 1, 1) := by decide +kernel
theorem dX6_limit_6 : decode cX6_limit 6 = .ok (.if_icmp .lt 10, 3) := by decide +kernel
theorem dX6_limit_9 : decode cX6_limit 9 = .ok (.iload_n 2, 1) := by decide +kernel
theorem dX6_limit_10 : decode cX6_limit 10 = .ok (.sipush 10000, 3) := by decide +kernel
theorem dX6_limit_13 : decode cX6_limit 13 = .ok (.if_icmp .lt 13, 3) := by decide +kernel
theorem dX6_limit_16 : decode cX6_limit 16 = .ok (.new 92, 3) := by decide +kernel
theorem dX6_limit_19 : decode cX6_limit 19 = .ok (.dup, 1) := by decide +kernel
theorem dX6_limit_20 : decode cX6_limit 20 = .ok (.ldc 114, 2) := by decide +kernel
theorem dX6_limit_22 : decode cX6_limit 22 = .ok (.invokespecial 96, 3) := by decide +kernel
theorem dX6_limit_25 : decode cX6_limit 25 = .ok (.athrow, 1) := by decide +kernel
theorem dX6_limit_26 : decode cX6_limit 26 = .ok (.aload_n 0, 1) := by decide +kernel
theorem dX6_limit_27 : decode cX6_limit 27 = .ok (.getfield 10, 3) := by decide +kernel
theorem dX6_limit_30 : decode cX6_limit 30 = .ok (.iload_n 1, 1) := by decide +kernel
theorem dX6_limit_31 : decode cX6_limit 31 = .ok (.iload_n 2, 1) := by decide +kernel
theorem dX6_limit_32 : decode cX6_limit 32 = .ok (.invokevirtual 116, 3) := by decide +kernel
theorem dX6_limit_35 : decode cX6_limit 35 = .ok (.istore_n 3, 1) := by decide +kernel
theorem dX6_limit_36 : decode cX6_limit 36 = .ok (.iload_n 3, 1) := by decide +kernel
theorem dX6_limit_37 : decode cX6_limit 37 = .ok (.ifCond .ne 26, 3) := by decide +kernel
theorem dX6_limit_40 : decode cX6_limit 40 = .ok (.aload_n 0, 1) := by decide +kernel
theorem dX6_limit_41 : decode cX6_limit 41 = .ok (.getfield 10, 3) := by decide +kernel
theorem dX6_limit_44 : decode cX6_limit 44 = .ok (.getfield 120, 3) := by decide +kernel
theorem dX6_limit_47 : decode cX6_limit 47 = .ok (.iload_n 1, 1) := by decide +kernel
theorem dX6_limit_48 : decode cX6_limit 48 = .ok (.iaload, 1) := by decide +kernel
theorem dX6_limit_49 : decode cX6_limit 49 = .ok (.iconst 5, 1) := by decide +kernel
theorem dX6_limit_50 : decode cX6_limit 50 = .ok (.if_icmp .lt 13, 3) := by decide +kernel
theorem dX6_limit_53 : decode cX6_limit 53 = .ok (.new 52, 3) := by decide +kernel
theorem dX6_limit_56 : decode cX6_limit 56 = .ok (.dup, 1) := by decide +kernel
theorem dX6_limit_57 : decode cX6_limit 57 = .ok (.ldc 123, 2) := by decide +kernel
theorem dX6_limit_59 : decode cX6_limit 59 = .ok (.invokespecial 56, 3) := by decide +kernel
theorem dX6_limit_62 : decode cX6_limit 62 = .ok (.athrow, 1) := by decide +kernel
theorem dX6_limit_63 : decode cX6_limit 63 = .ok (.aload_n 0, 1) := by decide +kernel
theorem dX6_limit_64 : decode cX6_limit 64 = .ok (.invokevirtual 59, 3) := by decide +kernel
theorem dX6_limit_67 : decode cX6_limit 67 = .ok (.iload_n 3, 1) := by decide +kernel
theorem dX6_limit_68 : decode cX6_limit 68 = .ok (.ifCond .eq 15, 3) := by decide +kernel
theorem dX6_limit_71 : decode cX6_limit 71 = .ok (.aload_n 0, 1) := by decide +kernel
theorem dX6_limit_72 : decode cX6_limit 72 = .ok (.getfield 10, 3) := by decide +kernel
theorem dX6_limit_75 : decode cX6_limit 75 = .ok (.iload_n 1, 1) := by decide +kernel
theorem dX6_limit_76 : decode cX6_limit 76 = .ok (.iload_n 2, 1) := by decide +kernel
theorem dX6_limit_77 : decode cX6_limit 77 = .ok (.invokevirtual 125, 3) := by decide +kernel
theorem dX6_limit_80 : decode cX6_limit 80 = .ok (.goto 12, 3) := by decide +kernel
theorem dX6_limit_83 : decode cX6_limit 83 = .ok (.aload_n 0, 1) := by decide +kernel
theorem dX6_limit_84 : decode cX6_limit 84 = .ok (.getfield 10, 3) := by decide +kernel
theorem dX6_limit_87 : decode cX6_limit 87 = .ok (.iload_n 1, 1) := by decide +kernel
theorem dX6_limit_88 : decode cX6_limit 88 = .ok (.iload_n 2, 1) := by decide +kernel
theorem dX6_limit_89 : decode cX6_limit 89 = .ok (.invokevirtual 128, 3) := by decide +kernel
theorem dX6_limit_92 : decode cX6_limit 92 = .ok (.aload_n 0, 1) := by decide +kernel
theorem dX6_limit_93 : decode cX6_limit 93 = .ok (.getfield 10, 3) := by decide +kernel
theorem dX6_limit_96 : decode cX6_limit 96 = .ok (.getfield 120, 3) := by decide +kernel
theorem dX6_limit_99 : decode cX6_limit 99 = .ok (.iload_n 1, 1) := by decide +kernel
theorem dX6_limit_100 : decode cX6_limit 100 = .ok (.iaload, 1) := by decide +kernel
theorem dX6_limit_101 : decode cX6_limit 101 = .ok (.ireturn, 1) := by decide +kernel
theorem dX6_value_0 : decode cX6_value 0 = .ok (.iload_n 1, 1) := by decide +kernel
theorem dX6_value_1 : decode cX6_value 1 = .ok (.bipush 12, 2) := by decide +kernel
theorem dX6_value_3 : decode cX6_value 3 = .ok (.invokestatic 44, 3) := by decide +kernel
theorem dX6_value_6 : decode cX6_value 6 = .ok (.aload_n 0, 1) := by decide +kernel
theorem dX6_value_7 : decode cX6_value 7 = .ok (.getfield 19, 3) := by decide +kernel
theorem dX6_value_10 : decode cX6_value 10 = .ok (.aload_n 0, 1) := by decide +kernel
theorem dX6_value_11 : decode cX6_value 11 = .ok (.getfield 10, 3) := by decide +kernel
theorem dX6_value_14 : decode cX6_value 14 = .ok (.invokevirtual 131, 3) := by decide +kernel
theorem dX6_value_17 : decode cX6_value 17 = .ok (.aload_n 0, 1) := by decide +kernel
theorem dX6_value_18 : decode cX6_value 18 = .ok (.iload_n 1, 1) := by decide +kernel
theorem dX6_value_19 : decode cX6_value 19 = .ok (.invokevirtual 135, 3) := by decide +kernel
theorem dX6_value_22 : decode cX6_value 22 = .ok (.ireturn, 1) := by decide +kernel
theorem dX6_sign_0 : decode cX6_sign 0 = .ok (.aload_n 0, 1) := by decide +kernel
theorem dX6_sign_1 : decode cX6_sign 1 = .ok (.iload_n 1, 1) := by decide +kernel
theorem dX6_sign_2 : decode cX6_sign 2 = .ok (.invokevirtual 66, 3) := by decide +kernel
theorem dX6_sign_5 : decode cX6_sign 5 = .ok (.iload_n 2, 1) := by decide +kernel
theorem dX6_sign_6 : decode cX6_sign 6 = .ok (.bipush 9, 2) := by decide +kernel
theorem dX6_sign_8 : decode cX6_sign 8 = .ok (.invokestatic 44, 3) := by decide +kernel
theorem dX6_sign_11 : decode cX6_sign 11 = .ok (.aload_n 0, 1) := by decide +kernel
theorem dX6_sign_12 : decode cX6_sign 12 = .ok (.getfield 19, 3) := by decide +kernel
theorem dX6_sign_15 : decode cX6_sign 15 = .ok (.aload_n 0, 1) := by decide +kernel
theorem dX6_sign_16 : decode cX6_sign 16 = .ok (.getfield 10, 3) := by decide +kernel
theorem dX6_sign_19 : decode cX6_sign 19 = .ok (.invokevirtual 131, 3) := by decide +kernel
theorem dX6_sign_22 : decode cX6_sign 22 = .ok (.aload_n 0, 1) := by decide +kernel
theorem dX6_sign_23 : decode cX6_sign 23 = .ok (.iload_n 1, 1) := by decide +kernel
theorem dX6_sign_24 : decode cX6_sign 24 = .ok (.iload_n 2, 1) := by decide +kernel
theorem dX6_sign_25 : decode cX6_sign 25 = .ok (.invokevirtual 139, 3) := by decide +kernel
theorem dX6_sign_28 : decode cX6_sign 28 = .ok (.ireturn, 1) := by decide +kernel
theorem dX6_kind_0 : decode cX6_kind 0 = .ok (.iload_n 1, 1) := by decide +kernel
theorem dX6_kind_1 : decode cX6_kind 1 = .ok (.invokestatic 40, 3) := by decide +kernel
theorem dX6_kind_4 : decode cX6_kind 4 = .ok (.iload_n 2, 1) := by decide +kernel
theorem dX6_kind_5 : decode cX6_kind 5 = .ok (.bipush 10, 2) := by decide +kernel
theorem dX6_kind_7 : decode cX6_kind 7 = .ok (.invokestatic 44, 3) := by decide +kernel
theorem dX6_kind_10 : decode cX6_kind 10 = .ok (.aload_n 0, 1) := by decide +kernel
theorem dX6_kind_11 : decode cX6_kind 11 = .ok (.getfield 19, 3) := by decide +kernel
theorem dX6_kind_14 : decode cX6_kind 14 = .ok (.aload_n 0, 1) := by decide +kernel
theorem dX6_kind_15 : decode cX6_kind 15 = .ok (.getfield 10, 3) := by decide +kernel
theorem dX6_kind_18 : decode cX6_kind 18 = .ok (.invokevirtual 131, 3) := by decide +kernel
theorem dX6_kind_21 : decode cX6_kind 21 = .ok (.aload_n 0, 1) := by decide +kernel
theorem dX6_kind_22 : decode cX6_kind 22 = .ok (.iload_n 1, 1) := by decide +kernel
theorem dX6_kind_23 : decode cX6_kind 23 = .ok (.iload_n 2, 1) := by decide +kernel
theorem dX6_kind_24 : decode cX6_kind 24 = .ok (.invokevirtual 143, 3) := by decide +kernel
theorem dX6_kind_27 : decode cX6_kind 27 = .ok (.ireturn, 1) := by decide +kernel
theorem dX6_lines_0 : decode cX6_lines 0 = .ok (.aload_n 0, 1) := by decide +kernel
theorem dX6_lines_1 : decode cX6_lines 1 = .ok (.getfield 19, 3) := by decide +kernel
theorem dX6_lines_4 : decode cX6_lines 4 = .ok (.aload_n 0, 1) := by decide +kernel
theorem dX6_lines_5 : decode cX6_lines 5 = .ok (.getfield 10, 3) := by decide +kernel
theorem dX6_lines_8 : decode cX6_lines 8 = .ok (.invokevirtual 131, 3) := by decide +kernel
theorem dX6_lines_11 : decode cX6_lines 11 = .ok (.aload_n 0, 1) := by decide +kernel
theorem dX6_lines_12 : decode cX6_lines 12 = .ok (.getfield 19, 3) := by decide +kernel
theorem dX6_lines_15 : decode cX6_lines 15 = .ok (.getfield 146, 3) := by decide +kernel
theorem dX6_lines_18 : decode cX6_lines 18 = .ok (.getfield 150, 3) := by decide +kernel
theorem dX6_lines_21 : decode cX6_lines 21 = .ok (.ireturn, 1) := by decide +kernel
theorem dX6_line_0 : decode cX6_line 0 = .ok (.aload_n 0, 1) := by decide +kernel
theorem dX6_line_1 : decode cX6_line 1 = .ok (.getfield 19, 3) := by decide +kernel
theorem dX6_line_4 : decode cX6_line 4 = .ok (.aload_n 0, 1) := by decide +kernel
theorem dX6_line_5 : decode cX6_line 5 = .ok (.getfield 10, 3) := by decide +kernel
theorem dX6_line_8 : decode cX6_line 8 = .ok (.invokevirtual 131, 3) := by decide +kernel
theorem dX6_line_11 : decode cX6_line 11 = .ok (.iload_n 1, 1) := by decide +kernel
theorem dX6_line_12 : decode cX6_line 12 = .ok (.ifCond .lt 17, 3) := by decide +kernel
theorem dX6_line_15 : decode cX6_line 15 = .ok (.iload_n 1, 1) := by decide +kernel
theorem dX6_line_16 : decode cX6_line 16 = .ok (.aload_n 0, 1) := by decide +kernel
theorem dX6_line_17 : decode cX6_line 17 = .ok (.getfield 19, 3) := by decide +kernel
theorem dX6_line_20 : decode cX6_line 20 = .ok (.getfield 146, 3) := by decide +kernel
theorem dX6_line_23 : decode cX6_line 23 = .ok (.getfield 150, 3) := by decide +kernel
theorem dX6_line_26 : decode cX6_line 26 = .ok (.if_icmp .lt 13, 3) := by decide +kernel
theorem dX6_line_29 : decode cX6_line 29 = .ok (.new 106, 3) := by decide +kernel
theorem dX6_line_32 : decode cX6_line 32 = .ok (.dup, 1) := by decide +kernel
theorem dX6_line_33 : decode cX6_line 33 = .ok (.ldc 155, 2) := by decide +kernel
theorem dX6_line_35 : decode cX6_line 35 = .ok (.invokespecial 110, 3) := by decide +kernel
theorem dX6_line_38 : decode cX6_line 38 = .ok (.athrow, 1) := by decide +kernel
theorem dX6_line_39 : decode cX6_line 39 = .ok (.iload_n 2, 1) := by decide +kernel
theorem dX6_line_40 : decode cX6_line 40 = .ok (.bipush 8, 2) := by decide +kernel
theorem dX6_line_42 : decode cX6_line 42 = .ok (.invokestatic 44, 3) := by decide +kernel
theorem dX6_line_45 : decode cX6_line 45 = .ok (.aload_n 0, 1) := by decide +kernel
theorem dX6_line_46 : decode cX6_line 46 = .ok (.getfield 19, 3) := by decide +kernel
theorem dX6_line_49 : decode cX6_line 49 = .ok (.getfield 146, 3) := by decide +kernel
theorem dX6_line_52 : decode cX6_line 52 = .ok (.iload_n 1, 1) := by decide +kernel
theorem dX6_line_53 : decode cX6_line 53 = .ok (.iload_n 2, 1) := by decide +kernel
theorem dX6_line_54 : decode cX6_line 54 = .ok (.invokevirtual 157, 3) := by decide +kernel
theorem dX6_line_57 : decode cX6_line 57 = .ok (.ireturn, 1) := by decide +kernel
theorem dX6_box_0 : decode cX6_box 0 = .ok (.iload_n 1, 1) := by decide +kernel
theorem dX6_box_1 : decode cX6_box 1 = .ok (.bipush 6, 2) := by decide +kernel
theorem dX6_box_3 : decode cX6_box 3 = .ok (.invokestatic 44, 3) := by decide +kernel
theorem dX6_box_6 : decode cX6_box 6 = .ok (.aload_n 0, 1) := by decide +kernel
theorem dX6_box_7 : decode cX6_box 7 = .ok (.getfield 19, 3) := by decide +kernel
theorem dX6_box_10 : decode cX6_box 10 = .ok (.aload_n 0, 1) := by decide +kernel
theorem dX6_box_11 : decode cX6_box 11 = .ok (.getfield 10, 3) := by decide +kernel
theorem dX6_box_14 : decode cX6_box 14 = .ok (.invokevirtual 131, 3) := by decide +kernel
theorem dX6_box_17 : decode cX6_box 17 = .ok (.aload_n 0, 1) := by decide +kernel
theorem dX6_box_18 : decode cX6_box 18 = .ok (.getfield 19, 3) := by decide +kernel
theorem dX6_box_21 : decode cX6_box 21 = .ok (.getfield 160, 3) := by decide +kernel
theorem dX6_box_24 : decode cX6_box 24 = .ok (.iload_n 1, 1) := by decide +kernel
theorem dX6_box_25 : decode cX6_box 25 = .ok (.invokevirtual 164, 3) := by decide +kernel
theorem dX6_box_28 : decode cX6_box 28 = .ok (.ireturn, 1) := by decide +kernel
theorem dX6_rounds_0 : decode cX6_rounds 0 = .ok (.iload_n 1, 1) := by decide +kernel
theorem dX6_rounds_1 : decode cX6_rounds 1 = .ok (.iconst 3, 1) := by decide +kernel
theorem dX6_rounds_2 : decode cX6_rounds 2 = .ok (.invokestatic 44, 3) := by decide +kernel
theorem dX6_rounds_5 : decode cX6_rounds 5 = .ok (.aload_n 0, 1) := by decide +kernel
theorem dX6_rounds_6 : decode cX6_rounds 6 = .ok (.getfield 19, 3) := by decide +kernel
theorem dX6_rounds_9 : decode cX6_rounds 9 = .ok (.aload_n 0, 1) := by decide +kernel
theorem dX6_rounds_10 : decode cX6_rounds 10 = .ok (.getfield 10, 3) := by decide +kernel
theorem dX6_rounds_13 : decode cX6_rounds 13 = .ok (.invokevirtual 131, 3) := by decide +kernel
theorem dX6_rounds_16 : decode cX6_rounds 16 = .ok (.aload_n 0, 1) := by decide +kernel
theorem dX6_rounds_17 : decode cX6_rounds 17 = .ok (.iload_n 1, 1) := by decide +kernel
theorem dX6_rounds_18 : decode cX6_rounds 18 = .ok (.invokevirtual 168, 3) := by decide +kernel
theorem dX6_rounds_21 : decode cX6_rounds 21 = .ok (.ireturn, 1) := by decide +kernel
theorem dX6_firstLines_0 : decode cX6_firstLines 0 = .ok (.aload_n 0, 1) := by decide +kernel
theorem dX6_firstLines_1 : decode cX6_firstLines 1 = .ok (.getfield 19, 3) := by decide +kernel
theorem dX6_firstLines_4 : decode cX6_firstLines 4 = .ok (.aload_n 0, 1) := by decide +kernel
theorem dX6_firstLines_5 : decode cX6_firstLines 5 = .ok (.getfield 10, 3) := by decide +kernel
theorem dX6_firstLines_8 : decode cX6_firstLines 8 = .ok (.invokevirtual 131, 3) := by decide +kernel
theorem dX6_firstLines_11 : decode cX6_firstLines 11 = .ok (.aload_n 0, 1) := by decide +kernel
theorem dX6_firstLines_12 : decode cX6_firstLines 12 = .ok (.getfield 19, 3) := by decide +kernel
theorem dX6_firstLines_15 : decode cX6_firstLines 15 = .ok (.getfield 171, 3) := by decide +kernel
theorem dX6_firstLines_18 : decode cX6_firstLines 18 = .ok (.ireturn, 1) := by decide +kernel
theorem dX6_explained_0 : decode cX6_explained 0 = .ok (.aload_n 0, 1) := by decide +kernel
theorem dX6_explained_1 : decode cX6_explained 1 = .ok (.getfield 19, 3) := by decide +kernel
theorem dX6_explained_4 : decode cX6_explained 4 = .ok (.aload_n 0, 1) := by decide +kernel
theorem dX6_explained_5 : decode cX6_explained 5 = .ok (.getfield 10, 3) := by decide +kernel
theorem dX6_explained_8 : decode cX6_explained 8 = .ok (.invokevirtual 131, 3) := by decide +kernel
theorem dX6_explained_11 : decode cX6_explained 11 = .ok (.aload_n 0, 1) := by decide +kernel
theorem dX6_explained_12 : decode cX6_explained 12 = .ok (.getfield 19, 3) := by decide +kernel
theorem dX6_explained_15 : decode cX6_explained 15 = .ok (.getfield 174, 3) := by decide +kernel
theorem dX6_explained_18 : decode cX6_explained 18 = .ok (.istore_n 1, 1) := by decide +kernel
theorem dX6_explained_19 : decode cX6_explained 19 = .ok (.iload_n 1, 1) := by decide +kernel
theorem dX6_explained_20 : decode cX6_explained 20 = .ok (.ifCond .le 17, 3) := by decide +kernel
theorem dX6_explained_23 : decode cX6_explained 23 = .ok (.aload_n 0, 1) := by decide +kernel
theorem dX6_explained_24 : decode cX6_explained 24 = .ok (.getfield 19, 3) := by decide +kernel
theorem dX6_explained_27 : decode cX6_explained 27 = .ok (.getfield 177, 3) := by decide +kernel
theorem dX6_explained_30 : decode cX6_explained 30 = .ok (.i2d, 1) := by decide +kernel
theorem dX6_explained_31 : decode cX6_explained 31 = .ok (.iload_n 1, 1) := by decide +kernel
theorem dX6_explained_32 : decode cX6_explained 32 = .ok (.i2d, 1) := by decide +kernel
theorem dX6_explained_33 : decode cX6_explained 33 = .ok (.ddiv, 1) := by decide +kernel
theorem dX6_explained_34 : decode cX6_explained 34 = .ok (.goto 4, 3) := by decide +kernel
theorem dX6_explained_37 : decode cX6_explained 37 = .ok (.dconst 1, 1) := by decide +kernel
theorem dX6_explained_38 : decode cX6_explained 38 = .ok (.dreturn, 1) := by decide +kernel
theorem dX6_saveState_0 : decode cX6_saveState 0 = .ok (.aload_n 0, 1) := by decide +kernel
theorem dX6_saveState_1 : decode cX6_saveState 1 = .ok (.getfield 222, 3) := by decide +kernel
theorem dX6_saveState_4 : decode cX6_saveState 4 = .ok (.iconst 4, 1) := by decide +kernel
theorem dX6_saveState_5 : decode cX6_saveState 5 = .ok (.if_icmp .ne 25, 3) := by decide +kernel
theorem dX6_saveState_8 : decode cX6_saveState 8 = .ok (.aload_n 0, 1) := by decide +kernel
theorem dX6_saveState_9 : decode cX6_saveState 9 = .ok (.aload_n 0, 1) := by decide +kernel
theorem dX6_saveState_10 : decode cX6_saveState 10 = .ok (.getfield 227, 3) := by decide +kernel
theorem dX6_saveState_13 : decode cX6_saveState 13 = .ok (.iconst 1, 1) := by decide +kernel
theorem dX6_saveState_14 : decode cX6_saveState 14 = .ok (.iadd, 1) := by decide +kernel
theorem dX6_saveState_15 : decode cX6_saveState 15 = .ok (.iconst 4, 1) := by decide +kernel
theorem dX6_saveState_16 : decode cX6_saveState 16 = .ok (.irem, 1) := by decide +kernel
theorem dX6_saveState_17 : decode cX6_saveState 17 = .ok (.putfield 227, 3) := by decide +kernel
theorem dX6_saveState_20 : decode cX6_saveState 20 = .ok (.aload_n 0, 1) := by decide +kernel
theorem dX6_saveState_21 : decode cX6_saveState 21 = .ok (.dup, 1) := by decide +kernel
theorem dX6_saveState_22 : decode cX6_saveState 22 = .ok (.getfield 222, 3) := by decide +kernel
theorem dX6_saveState_25 : decode cX6_saveState 25 = .ok (.iconst 1, 1) := by decide +kernel
theorem dX6_saveState_26 : decode cX6_saveState 26 = .ok (.isub, 1) := by decide +kernel
theorem dX6_saveState_27 : decode cX6_saveState 27 = .ok (.putfield 222, 3) := by decide +kernel
theorem dX6_saveState_30 : decode cX6_saveState 30 = .ok (.aload_n 0, 1) := by decide +kernel
theorem dX6_saveState_31 : decode cX6_saveState 31 = .ok (.getfield 36, 3) := by decide +kernel
theorem dX6_saveState_34 : decode cX6_saveState 34 = .ok (.aload_n 0, 1) := by decide +kernel
theorem dX6_saveState_35 : decode cX6_saveState 35 = .ok (.getfield 227, 3) := by decide +kernel
theorem dX6_saveState_38 : decode cX6_saveState 38 = .ok (.aload_n 0, 1) := by decide +kernel
theorem dX6_saveState_39 : decode cX6_saveState 39 = .ok (.getfield 222, 3) := by decide +kernel
theorem dX6_saveState_42 : decode cX6_saveState 42 = .ok (.iadd, 1) := by decide +kernel
theorem dX6_saveState_43 : decode cX6_saveState 43 = .ok (.iconst 4, 1) := by decide +kernel
theorem dX6_saveState_44 : decode cX6_saveState 44 = .ok (.irem, 1) := by decide +kernel
theorem dX6_saveState_45 : decode cX6_saveState 45 = .ok (.aaload, 1) := by decide +kernel
theorem dX6_saveState_46 : decode cX6_saveState 46 = .ok (.astore_n 1, 1) := by decide +kernel
theorem dX6_saveState_47 : decode cX6_saveState 47 = .ok (.aload_n 1, 1) := by decide +kernel
theorem dX6_saveState_48 : decode cX6_saveState 48 = .ok (.ifnull 11, 3) := by decide +kernel
theorem dX6_saveState_51 : decode cX6_saveState 51 = .ok (.aload_n 1, 1) := by decide +kernel
theorem dX6_saveState_52 : decode cX6_saveState 52 = .ok (.aload_n 0, 1) := by decide +kernel
theorem dX6_saveState_53 : decode cX6_saveState 53 = .ok (.getfield 10, 3) := by decide +kernel
theorem dX6_saveState_56 : decode cX6_saveState 56 = .ok (.invokevirtual 180, 3) := by decide +kernel
theorem dX6_saveState_59 : decode cX6_saveState 59 = .ok (.aload_n 0, 1) := by decide +kernel
theorem dX6_saveState_60 : decode cX6_saveState 60 = .ok (.dup, 1) := by decide +kernel
theorem dX6_saveState_61 : decode cX6_saveState 61 = .ok (.getfield 222, 3) := by decide +kernel
theorem dX6_saveState_64 : decode cX6_saveState 64 = .ok (.iconst 1, 1) := by decide +kernel
theorem dX6_saveState_65 : decode cX6_saveState 65 = .ok (.iadd, 1) := by decide +kernel
theorem dX6_saveState_66 : decode cX6_saveState 66 = .ok (.putfield 222, 3) := by decide +kernel
theorem dX6_saveState_69 : decode cX6_saveState 69 = .ok (.aload_n 0, 1) := by decide +kernel
theorem dX6_saveState_70 : decode cX6_saveState 70 = .ok (.getfield 19, 3) := by decide +kernel
theorem dX6_saveState_73 : decode cX6_saveState 73 = .ok (.iconst 0, 1) := by decide +kernel
theorem dX6_saveState_74 : decode cX6_saveState 74 = .ok (.putfield 183, 3) := by decide +kernel
theorem dX6_saveState_77 : decode cX6_saveState 77 = .ok (.return_, 1) := by decide +kernel
theorem dX6_numberOf_0 : decode cX6_numberOf 0 = .ok (.iload_n 1, 1) := by decide +kernel
theorem dX6_numberOf_1 : decode cX6_numberOf 1 = .ok (.iconst 4, 1) := by decide +kernel
theorem dX6_numberOf_2 : decode cX6_numberOf 2 = .ok (.if_icmp .ge 21, 3) := by decide +kernel
theorem dX6_numberOf_5 : decode cX6_numberOf 5 = .ok (.iload_n 1, 1) := by decide +kernel
theorem dX6_numberOf_6 : decode cX6_numberOf 6 = .ok (.ifCond .lt 15, 3) := by decide +kernel
theorem dX6_numberOf_9 : decode cX6_numberOf 9 = .ok (.aload_n 0, 1) := by decide +kernel
theorem dX6_numberOf_10 : decode cX6_numberOf 10 = .ok (.getfield 10, 3) := by decide +kernel
theorem dX6_numberOf_13 : decode cX6_numberOf 13 = .ok (.getfield 97, 3) := by decide +kernel
theorem dX6_numberOf_16 : decode cX6_numberOf 16 = .ok (.iload_n 1, 1) := by decide +kernel
theorem dX6_numberOf_17 : decode cX6_numberOf 17 = .ok (.iaload, 1) := by decide +kernel
theorem dX6_numberOf_18 : decode cX6_numberOf 18 = .ok (.goto 4, 3) := by decide +kernel
theorem dX6_numberOf_21 : decode cX6_numberOf 21 = .ok (.iconst (-1), 1) := by decide +kernel
theorem dX6_numberOf_22 : decode cX6_numberOf 22 = .ok (.ireturn, 1) := by decide +kernel
theorem dX6_numberOf_23 : decode cX6_numberOf 23 = .ok (.iload_n 1, 1) := by decide +kernel
theorem dX6_numberOf_24 : decode cX6_numberOf 24 = .ok (.bipush 9, 2) := by decide +kernel
theorem dX6_numberOf_26 : decode cX6_numberOf 26 = .ok (.if_icmp .ge 15, 3) := by decide +kernel
theorem dX6_numberOf_29 : decode cX6_numberOf 29 = .ok (.aload_n 0, 1) := by decide +kernel
theorem dX6_numberOf_30 : decode cX6_numberOf 30 = .ok (.getfield 10, 3) := by decide +kernel
theorem dX6_numberOf_33 : decode cX6_numberOf 33 = .ok (.getfield 82, 3) := by decide +kernel
theorem dX6_numberOf_36 : decode cX6_numberOf 36 = .ok (.iload_n 1, 1) := by decide +kernel
theorem dX6_numberOf_37 : decode cX6_numberOf 37 = .ok (.iconst 4, 1) := by decide +kernel
theorem dX6_numberOf_38 : decode cX6_numberOf 38 = .ok (.isub, 1) := by decide +kernel
theorem dX6_numberOf_39 : decode cX6_numberOf 39 = .ok (.iaload, 1) := by decide +kernel
theorem dX6_numberOf_40 : decode cX6_numberOf 40 = .ok (.ireturn, 1) := by decide +kernel
theorem dX6_numberOf_41 : decode cX6_numberOf 41 = .ok (.iload_n 1, 1) := by decide +kernel
theorem dX6_numberOf_42 : decode cX6_numberOf 42 = .ok (.lookupswitch 42 #[(9, 26), (10, 34)], 26) := by decide +kernel
theorem dX6_numberOf_68 : decode cX6_numberOf 68 = .ok (.aload_n 0, 1) := by decide +kernel
theorem dX6_numberOf_69 : decode cX6_numberOf 69 = .ok (.getfield 10, 3) := by decide +kernel
theorem dX6_numberOf_72 : decode cX6_numberOf 72 = .ok (.getfield 48, 3) := by decide +kernel
theorem dX6_numberOf_75 : decode cX6_numberOf 75 = .ok (.ireturn, 1) := by decide +kernel
theorem dX6_numberOf_76 : decode cX6_numberOf 76 = .ok (.aload_n 0, 1) := by decide +kernel
theorem dX6_numberOf_77 : decode cX6_numberOf 77 = .ok (.getfield 19, 3) := by decide +kernel
theorem dX6_numberOf_80 : decode cX6_numberOf 80 = .ok (.getfield 174, 3) := by decide +kernel
theorem dX6_numberOf_83 : decode cX6_numberOf 83 = .ok (.ireturn, 1) := by decide +kernel
theorem dX6_numberOf_84 : decode cX6_numberOf 84 = .ok (.aload_n 0, 1) := by decide +kernel
theorem dX6_numberOf_85 : decode cX6_numberOf 85 = .ok (.getfield 19, 3) := by decide +kernel
theorem dX6_numberOf_88 : decode cX6_numberOf 88 = .ok (.getfield 177, 3) := by decide +kernel
theorem dX6_numberOf_91 : decode cX6_numberOf 91 = .ok (.ireturn, 1) := by decide +kernel
theorem dX6_signFact_0 : decode cX6_signFact 0 = .ok (.iload_n 1, 1) := by decide +kernel
theorem dX6_signFact_1 : decode cX6_signFact 1 = .ok (.ifCond .lt 9, 3) := by decide +kernel
theorem dX6_signFact_4 : decode cX6_signFact 4 = .ok (.iload_n 1, 1) := by decide +kernel
theorem dX6_signFact_5 : decode cX6_signFact 5 = .ok (.bipush 40, 2) := by decide +kernel
theorem dX6_signFact_7 : decode cX6_signFact 7 = .ok (.if_icmp .lt 5, 3) := by decide +kernel
theorem dX6_signFact_10 : decode cX6_signFact 10 = .ok (.iconst (-1), 1) := by decide +kernel
theorem dX6_signFact_11 : decode cX6_signFact 11 = .ok (.ireturn, 1) := by decide +kernel
theorem dX6_signFact_12 : decode cX6_signFact 12 = .ok (.iload_n 2, 1) := by decide +kernel
theorem dX6_signFact_13 : decode cX6_signFact 13 = .ok (.tableswitch 142 0 7 #[47, 57, 67, 77, 87, 97, 106, 124], 47) := by decide +kernel
theorem dX6_signFact_60 : decode cX6_signFact 60 = .ok (.aload_n 0, 1) := by decide +kernel
theorem dX6_signFact_61 : decode cX6_signFact 61 = .ok (.getfield 10, 3) := by decide +kernel
theorem dX6_signFact_64 : decode cX6_signFact 64 = .ok (.getfield 187, 3) := by decide +kernel
theorem dX6_signFact_67 : decode cX6_signFact 67 = .ok (.iload_n 1, 1) := by decide +kernel
theorem dX6_signFact_68 : decode cX6_signFact 68 = .ok (.iaload, 1) := by decide +kernel
theorem dX6_signFact_69 : decode cX6_signFact 69 = .ok (.ireturn, 1) := by decide +kernel
theorem dX6_signFact_70 : decode cX6_signFact 70 = .ok (.aload_n 0, 1) := by decide +kernel
theorem dX6_signFact_71 : decode cX6_signFact 71 = .ok (.getfield 10, 3) := by decide +kernel
theorem dX6_signFact_74 : decode cX6_signFact 74 = .ok (.getfield 72, 3) := by decide +kernel
theorem dX6_signFact_77 : decode cX6_signFact 77 = .ok (.iload_n 1, 1) := by decide +kernel
theorem dX6_signFact_78 : decode cX6_signFact 78 = .ok (.iaload, 1) := by decide +kernel
theorem dX6_signFact_79 : decode cX6_signFact 79 = .ok (.ireturn, 1) := by decide +kernel
theorem dX6_signFact_80 : decode cX6_signFact 80 = .ok (.aload_n 0, 1) := by decide +kernel
theorem dX6_signFact_81 : decode cX6_signFact 81 = .ok (.getfield 10, 3) := by decide +kernel
theorem dX6_signFact_84 : decode cX6_signFact 84 = .ok (.getfield 76, 3) := by decide +kernel
theorem dX6_signFact_87 : decode cX6_signFact 87 = .ok (.iload_n 1, 1) := by decide +kernel
theorem dX6_signFact_88 : decode cX6_signFact 88 = .ok (.iaload, 1) := by decide +kernel
theorem dX6_signFact_89 : decode cX6_signFact 89 = .ok (.ireturn, 1) := by decide +kernel
theorem dX6_signFact_90 : decode cX6_signFact 90 = .ok (.aload_n 0, 1) := by decide +kernel
theorem dX6_signFact_91 : decode cX6_signFact 91 = .ok (.getfield 10, 3) := by decide +kernel
theorem dX6_signFact_94 : decode cX6_signFact 94 = .ok (.getfield 244, 3) := by decide +kernel
theorem dX6_signFact_97 : decode cX6_signFact 97 = .ok (.iload_n 1, 1) := by decide +kernel
theorem dX6_signFact_98 : decode cX6_signFact 98 = .ok (.iaload, 1) := by decide +kernel
theorem dX6_signFact_99 : decode cX6_signFact 99 = .ok (.ireturn, 1) := by decide +kernel
theorem dX6_signFact_100 : decode cX6_signFact 100 = .ok (.aload_n 0, 1) := by decide +kernel
theorem dX6_signFact_101 : decode cX6_signFact 101 = .ok (.getfield 10, 3) := by decide +kernel
theorem dX6_signFact_104 : decode cX6_signFact 104 = .ok (.getfield 194, 3) := by decide +kernel
theorem dX6_signFact_107 : decode cX6_signFact 107 = .ok (.iload_n 1, 1) := by decide +kernel
theorem dX6_signFact_108 : decode cX6_signFact 108 = .ok (.iaload, 1) := by decide +kernel
theorem dX6_signFact_109 : decode cX6_signFact 109 = .ok (.ireturn, 1) := by decide +kernel
theorem dX6_signFact_110 : decode cX6_signFact 110 = .ok (.aload_n 0, 1) := by decide +kernel
theorem dX6_signFact_111 : decode cX6_signFact 111 = .ok (.getfield 10, 3) := by decide +kernel
theorem dX6_signFact_114 : decode cX6_signFact 114 = .ok (.iload_n 1, 1) := by decide +kernel
theorem dX6_signFact_115 : decode cX6_signFact 115 = .ok (.invokevirtual 247, 3) := by decide +kernel
theorem dX6_signFact_118 : decode cX6_signFact 118 = .ok (.ireturn, 1) := by decide +kernel
theorem dX6_signFact_119 : decode cX6_signFact 119 = .ok (.aload_n 0, 1) := by decide +kernel
theorem dX6_signFact_120 : decode cX6_signFact 120 = .ok (.getfield 19, 3) := by decide +kernel
theorem dX6_signFact_123 : decode cX6_signFact 123 = .ok (.getfield 250, 3) := by decide +kernel
theorem dX6_signFact_126 : decode cX6_signFact 126 = .ok (.iload_n 1, 1) := by decide +kernel
theorem dX6_signFact_127 : decode cX6_signFact 127 = .ok (.baload, 1) := by decide +kernel
theorem dX6_signFact_128 : decode cX6_signFact 128 = .ok (.ifCond .eq 7, 3) := by decide +kernel
theorem dX6_signFact_131 : decode cX6_signFact 131 = .ok (.iconst 1, 1) := by decide +kernel
theorem dX6_signFact_132 : decode cX6_signFact 132 = .ok (.goto 4, 3) := by decide +kernel
theorem dX6_signFact_135 : decode cX6_signFact 135 = .ok (.iconst 0, 1) := by decide +kernel
theorem dX6_signFact_136 : decode cX6_signFact 136 = .ok (.ireturn, 1) := by decide +kernel
theorem dX6_signFact_137 : decode cX6_signFact 137 = .ok (.aload_n 0, 1) := by decide +kernel
theorem dX6_signFact_138 : decode cX6_signFact 138 = .ok (.getfield 19, 3) := by decide +kernel
theorem dX6_signFact_141 : decode cX6_signFact 141 = .ok (.getfield 254, 3) := by decide +kernel
theorem dX6_signFact_144 : decode cX6_signFact 144 = .ok (.iload_n 1, 1) := by decide +kernel
theorem dX6_signFact_145 : decode cX6_signFact 145 = .ok (.baload, 1) := by decide +kernel
theorem dX6_signFact_146 : decode cX6_signFact 146 = .ok (.ifCond .eq 7, 3) := by decide +kernel
theorem dX6_signFact_149 : decode cX6_signFact 149 = .ok (.iconst 1, 1) := by decide +kernel
theorem dX6_signFact_150 : decode cX6_signFact 150 = .ok (.goto 4, 3) := by decide +kernel
theorem dX6_signFact_153 : decode cX6_signFact 153 = .ok (.iconst 0, 1) := by decide +kernel
theorem dX6_signFact_154 : decode cX6_signFact 154 = .ok (.ireturn, 1) := by decide +kernel
theorem dX6_signFact_155 : decode cX6_signFact 155 = .ok (.aload_n 0, 1) := by decide +kernel
theorem dX6_signFact_156 : decode cX6_signFact 156 = .ok (.getfield 19, 3) := by decide +kernel
theorem dX6_signFact_159 : decode cX6_signFact 159 = .ok (.aload_n 0, 1) := by decide +kernel
theorem dX6_signFact_160 : decode cX6_signFact 160 = .ok (.getfield 10, 3) := by decide +kernel
theorem dX6_signFact_163 : decode cX6_signFact 163 = .ok (.iload_n 1, 1) := by decide +kernel
theorem dX6_signFact_164 : decode cX6_signFact 164 = .ok (.invokevirtual 257, 3) := by decide +kernel
theorem dX6_signFact_167 : decode cX6_signFact 167 = .ok (.ireturn, 1) := by decide +kernel
theorem dX6_kindFact_0 : decode cX6_kindFact 0 = .ok (.iload_n 1, 1) := by decide +kernel
theorem dX6_kindFact_1 : decode cX6_kindFact 1 = .ok (.ifCond .lt 9, 3) := by decide +kernel
theorem dX6_kindFact_4 : decode cX6_kindFact 4 = .ok (.iload_n 1, 1) := by decide +kernel
theorem dX6_kindFact_5 : decode cX6_kindFact 5 = .ok (.bipush 12, 2) := by decide +kernel
theorem dX6_kindFact_7 : decode cX6_kindFact 7 = .ok (.if_icmp .lt 5, 3) := by decide +kernel
theorem dX6_kindFact_10 : decode cX6_kindFact 10 = .ok (.iconst (-1), 1) := by decide +kernel
theorem dX6_kindFact_11 : decode cX6_kindFact 11 = .ok (.ireturn, 1) := by decide +kernel
theorem dX6_kindFact_12 : decode cX6_kindFact 12 = .ok (.iload_n 2, 1) := by decide +kernel
theorem dX6_kindFact_13 : decode cX6_kindFact 13 = .ok (.tableswitch 110 0 9 #[55, 65, 75, 110, 110, 110, 110, 110, 85, 97], 55) := by decide +kernel
theorem dX6_kindFact_68 : decode cX6_kindFact 68 = .ok (.aload_n 0, 1) := by decide +kernel
theorem dX6_kindFact_69 : decode cX6_kindFact 69 = .ok (.getfield 10, 3) := by decide +kernel
theorem dX6_kindFact_72 : decode cX6_kindFact 72 = .ok (.getfield 100, 3) := by decide +kernel
theorem dX6_kindFact_75 : decode cX6_kindFact 75 = .ok (.iload_n 1, 1) := by decide +kernel
theorem dX6_kindFact_76 : decode cX6_kindFact 76 = .ok (.iaload, 1) := by decide +kernel
theorem dX6_kindFact_77 : decode cX6_kindFact 77 = .ok (.ireturn, 1) := by decide +kernel
theorem dX6_kindFact_78 : decode cX6_kindFact 78 = .ok (.aload_n 0, 1) := by decide +kernel
theorem dX6_kindFact_79 : decode cX6_kindFact 79 = .ok (.getfield 10, 3) := by decide +kernel
theorem dX6_kindFact_82 : decode cX6_kindFact 82 = .ok (.getfield 103, 3) := by decide +kernel
theorem dX6_kindFact_85 : decode cX6_kindFact 85 = .ok (.iload_n 1, 1) := by decide +kernel
theorem dX6_kindFact_86 : decode cX6_kindFact 86 = .ok (.iaload, 1) := by decide +kernel
theorem dX6_kindFact_87 : decode cX6_kindFact 87 = .ok (.ireturn, 1) := by decide +kernel
theorem dX6_kindFact_88 : decode cX6_kindFact 88 = .ok (.aload_n 0, 1) := by decide +kernel
theorem dX6_kindFact_89 : decode cX6_kindFact 89 = .ok (.getfield 10, 3) := by decide +kernel
theorem dX6_kindFact_92 : decode cX6_kindFact 92 = .ok (.getfield 120, 3) := by decide +kernel
theorem dX6_kindFact_95 : decode cX6_kindFact 95 = .ok (.iload_n 1, 1) := by decide +kernel
theorem dX6_kindFact_96 : decode cX6_kindFact 96 = .ok (.iaload, 1) := by decide +kernel
theorem dX6_kindFact_97 : decode cX6_kindFact 97 = .ok (.ireturn, 1) := by decide +kernel
theorem dX6_kindFact_98 : decode cX6_kindFact 98 = .ok (.aload_n 0, 1) := by decide +kernel
theorem dX6_kindFact_99 : decode cX6_kindFact 99 = .ok (.getfield 19, 3) := by decide +kernel
theorem dX6_kindFact_102 : decode cX6_kindFact 102 = .ok (.getfield 146, 3) := by decide +kernel
theorem dX6_kindFact_105 : decode cX6_kindFact 105 = .ok (.iload_n 1, 1) := by decide +kernel
theorem dX6_kindFact_106 : decode cX6_kindFact 106 = .ok (.invokevirtual 261, 3) := by decide +kernel
theorem dX6_kindFact_109 : decode cX6_kindFact 109 = .ok (.ireturn, 1) := by decide +kernel
theorem dX6_kindFact_110 : decode cX6_kindFact 110 = .ok (.aload_n 0, 1) := by decide +kernel
theorem dX6_kindFact_111 : decode cX6_kindFact 111 = .ok (.getfield 19, 3) := by decide +kernel
theorem dX6_kindFact_114 : decode cX6_kindFact 114 = .ok (.getfield 264, 3) := by decide +kernel
theorem dX6_kindFact_117 : decode cX6_kindFact 117 = .ok (.getfield 268, 3) := by decide +kernel
theorem dX6_kindFact_120 : decode cX6_kindFact 120 = .ok (.iload_n 1, 1) := by decide +kernel
theorem dX6_kindFact_121 : decode cX6_kindFact 121 = .ok (.iaload, 1) := by decide +kernel
theorem dX6_kindFact_122 : decode cX6_kindFact 122 = .ok (.ireturn, 1) := by decide +kernel
theorem dX6_kindFact_123 : decode cX6_kindFact 123 = .ok (.aload_n 0, 1) := by decide +kernel
theorem dX6_kindFact_124 : decode cX6_kindFact 124 = .ok (.getfield 10, 3) := by decide +kernel
theorem dX6_kindFact_127 : decode cX6_kindFact 127 = .ok (.iload_n 1, 1) := by decide +kernel
theorem dX6_kindFact_128 : decode cX6_kindFact 128 = .ok (.iload_n 2, 1) := by decide +kernel
theorem dX6_kindFact_129 : decode cX6_kindFact 129 = .ok (.iconst 3, 1) := by decide +kernel
theorem dX6_kindFact_130 : decode cX6_kindFact 130 = .ok (.isub, 1) := by decide +kernel
theorem dX6_kindFact_131 : decode cX6_kindFact 131 = .ok (.invokevirtual 273, 3) := by decide +kernel
theorem dX6_kindFact_134 : decode cX6_kindFact 134 = .ok (.ireturn, 1) := by decide +kernel
theorem dX6_roundFact_0 : decode cX6_roundFact 0 = .ok (.iload_n 1, 1) := by decide +kernel
theorem dX6_roundFact_1 : decode cX6_roundFact 1 = .ok (.lookupswitch 51 #[(0, 27), (1, 35)], 27) := by decide +kernel
theorem dX6_roundFact_28 : decode cX6_roundFact 28 = .ok (.aload_n 0, 1) := by decide +kernel
theorem dX6_roundFact_29 : decode cX6_roundFact 29 = .ok (.getfield 19, 3) := by decide +kernel
theorem dX6_roundFact_32 : decode cX6_roundFact 32 = .ok (.getfield 276, 3) := by decide +kernel
theorem dX6_roundFact_35 : decode cX6_roundFact 35 = .ok (.ireturn, 1) := by decide +kernel
theorem dX6_roundFact_36 : decode cX6_roundFact 36 = .ok (.aload_n 0, 1) := by decide +kernel
theorem dX6_roundFact_37 : decode cX6_roundFact 37 = .ok (.getfield 19, 3) := by decide +kernel
theorem dX6_roundFact_40 : decode cX6_roundFact 40 = .ok (.getfield 279, 3) := by decide +kernel
theorem dX6_roundFact_43 : decode cX6_roundFact 43 = .ok (.ifCond .eq 7, 3) := by decide +kernel
theorem dX6_roundFact_46 : decode cX6_roundFact 46 = .ok (.iconst 1, 1) := by decide +kernel
theorem dX6_roundFact_47 : decode cX6_roundFact 47 = .ok (.goto 4, 3) := by decide +kernel
theorem dX6_roundFact_50 : decode cX6_roundFact 50 = .ok (.iconst 0, 1) := by decide +kernel
theorem dX6_roundFact_51 : decode cX6_roundFact 51 = .ok (.ireturn, 1) := by decide +kernel
theorem dX6_roundFact_52 : decode cX6_roundFact 52 = .ok (.aload_n 0, 1) := by decide +kernel
theorem dX6_roundFact_53 : decode cX6_roundFact 53 = .ok (.getfield 19, 3) := by decide +kernel
theorem dX6_roundFact_56 : decode cX6_roundFact 56 = .ok (.aload_n 0, 1) := by decide +kernel
theorem dX6_roundFact_57 : decode cX6_roundFact 57 = .ok (.getfield 10, 3) := by decide +kernel
theorem dX6_roundFact_60 : decode cX6_roundFact 60 = .ok (.invokevirtual 282, 3) := by decide +kernel
theorem dX6_roundFact_63 : decode cX6_roundFact 63 = .ok (.ireturn, 1) := by decide +kernel
theorem dX6_demandSign_0 : decode cX6_demandSign 0 = .ok (.iload_n 1, 1) := by decide +kernel
theorem dX6_demandSign_1 : decode cX6_demandSign 1 = .ok (.ifCond .lt 14, 3) := by decide +kernel
theorem dX6_demandSign_4 : decode cX6_demandSign 4 = .ok (.iload_n 1, 1) := by decide +kernel
theorem dX6_demandSign_5 : decode cX6_demandSign 5 = .ok (.aload_n 0, 1) := by decide +kernel
theorem dX6_demandSign_6 : decode cX6_demandSign 6 = .ok (.getfield 10, 3) := by decide +kernel
theorem dX6_demandSign_9 : decode cX6_demandSign 9 = .ok (.getfield 48, 3) := by decide +kernel
theorem dX6_demandSign_12 : decode cX6_demandSign 12 = .ok (.if_icmp .lt 14, 3) := by decide +kernel
theorem dX6_demandSign_15 : decode cX6_demandSign 15 = .ok (.new 106, 3) := by decide +kernel
theorem dX6_demandSign_18 : decode cX6_demandSign 18 = .ok (.dup, 1) := by decide +kernel
theorem dX6_demandSign_19 : decode cX6_demandSign 19 = .ok (.ldc_w 286, 3) := by decide +kernel
theorem dX6_demandSign_22 : decode cX6_demandSign 22 = .ok (.invokespecial 110, 3) := by decide +kernel
theorem dX6_demandSign_25 : decode cX6_demandSign 25 = .ok (.athrow, 1) := by decide +kernel
theorem dX6_demandSign_26 : decode cX6_demandSign 26 = .ok (.return_, 1) := by decide +kernel
theorem dX6_demandKind_0 : decode cX6_demandKind 0 = .ok (.iload_n 0, 1) := by decide +kernel
theorem dX6_demandKind_1 : decode cX6_demandKind 1 = .ok (.ifCond .lt 9, 3) := by decide +kernel
theorem dX6_demandKind_4 : decode cX6_demandKind 4 = .ok (.iload_n 0, 1) := by decide +kernel
theorem dX6_demandKind_5 : decode cX6_demandKind 5 = .ok (.bipush 12, 2) := by decide +kernel
theorem dX6_demandKind_7 : decode cX6_demandKind 7 = .ok (.if_icmp .lt 14, 3) := by decide +kernel
theorem dX6_demandKind_10 : decode cX6_demandKind 10 = .ok (.new 106, 3) := by decide +kernel
theorem dX6_demandKind_13 : decode cX6_demandKind 13 = .ok (.dup, 1) := by decide +kernel
theorem dX6_demandKind_14 : decode cX6_demandKind 14 = .ok (.ldc_w 288, 3) := by decide +kernel
theorem dX6_demandKind_17 : decode cX6_demandKind 17 = .ok (.invokespecial 110, 3) := by decide +kernel
theorem dX6_demandKind_20 : decode cX6_demandKind 20 = .ok (.athrow, 1) := by decide +kernel
theorem dX6_demandKind_21 : decode cX6_demandKind 21 = .ok (.return_, 1) := by decide +kernel
theorem dX6_demandBelow_0 : decode cX6_demandBelow 0 = .ok (.iload_n 0, 1) := by decide +kernel
theorem dX6_demandBelow_1 : decode cX6_demandBelow 1 = .ok (.ifCond .lt 8, 3) := by decide +kernel
theorem dX6_demandBelow_4 : decode cX6_demandBelow 4 = .ok (.iload_n 0, 1) := by decide +kernel
theorem dX6_demandBelow_5 : decode cX6_demandBelow 5 = .ok (.iload_n 1, 1) := by decide +kernel
theorem dX6_demandBelow_6 : decode cX6_demandBelow 6 = .ok (.if_icmp .lt 14, 3) := by decide +kernel
theorem dX6_demandBelow_9 : decode cX6_demandBelow 9 = .ok (.new 92, 3) := by decide +kernel
theorem dX6_demandBelow_12 : decode cX6_demandBelow 12 = .ok (.dup, 1) := by decide +kernel
theorem dX6_demandBelow_13 : decode cX6_demandBelow 13 = .ok (.ldc_w 290, 3) := by decide +kernel
theorem dX6_demandBelow_16 : decode cX6_demandBelow 16 = .ok (.invokespecial 96, 3) := by decide +kernel
theorem dX6_demandBelow_19 : decode cX6_demandBelow 19 = .ok (.athrow, 1) := by decide +kernel
theorem dX6_demandBelow_20 : decode cX6_demandBelow 20 = .ok (.return_, 1) := by decide +kernel
theorem dX6_demandSpan_0 : decode cX6_demandSpan 0 = .ok (.iload_n 0, 1) := by decide +kernel
theorem dX6_demandSpan_1 : decode cX6_demandSpan 1 = .ok (.bipush 10, 2) := by decide +kernel
theorem dX6_demandSpan_3 : decode cX6_demandSpan 3 = .ok (.if_icmp .lt 10, 3) := by decide +kernel
theorem dX6_demandSpan_6 : decode cX6_demandSpan 6 = .ok (.iload_n 0, 1) := by decide +kernel
theorem dX6_demandSpan_7 : decode cX6_demandSpan 7 = .ok (.sipush 200, 3) := by decide +kernel
theorem dX6_demandSpan_10 : decode cX6_demandSpan 10 = .ok (.if_icmp .le 14, 3) := by decide +kernel
theorem dX6_demandSpan_13 : decode cX6_demandSpan 13 = .ok (.new 92, 3) := by decide +kernel
theorem dX6_demandSpan_16 : decode cX6_demandSpan 16 = .ok (.dup, 1) := by decide +kernel
theorem dX6_demandSpan_17 : decode cX6_demandSpan 17 = .ok (.ldc_w 292, 3) := by decide +kernel
theorem dX6_demandSpan_20 : decode cX6_demandSpan 20 = .ok (.invokespecial 96, 3) := by decide +kernel
theorem dX6_demandSpan_23 : decode cX6_demandSpan 23 = .ok (.athrow, 1) := by decide +kernel
theorem dX6_demandSpan_24 : decode cX6_demandSpan 24 = .ok (.return_, 1) := by decide +kernel
theorem dJ9_max_7cf53_0 : decode cJ9_max_7cf53 0 = .ok (.iload_n 0, 1) := by decide +kernel
theorem dJ9_max_7cf53_1 : decode cJ9_max_7cf53 1 = .ok (.iload_n 1, 1) := by decide +kernel
theorem dJ9_max_7cf53_2 : decode cJ9_max_7cf53 2 = .ok (.if_icmp .lt 7, 3) := by decide +kernel
theorem dJ9_max_7cf53_5 : decode cJ9_max_7cf53 5 = .ok (.iload_n 0, 1) := by decide +kernel
theorem dJ9_max_7cf53_6 : decode cJ9_max_7cf53 6 = .ok (.goto 4, 3) := by decide +kernel
theorem dJ9_max_7cf53_9 : decode cJ9_max_7cf53 9 = .ok (.iload_n 1, 1) := by decide +kernel
theorem dJ9_max_7cf53_10 : decode cJ9_max_7cf53 10 = .ok (.ireturn, 1) := by decide +kernel
theorem dJ9_min_7cf53_0 : decode cJ9_min_7cf53 0 = .ok (.iload_n 0, 1) := by decide +kernel
theorem dJ9_min_7cf53_1 : decode cJ9_min_7cf53 1 = .ok (.iload_n 1, 1) := by decide +kernel
theorem dJ9_min_7cf53_2 : decode cJ9_min_7cf53 2 = .ok (.if_icmp .gt 7, 3) := by decide +kernel
theorem dJ9_min_7cf53_5 : decode cJ9_min_7cf53 5 = .ok (.iload_n 0, 1) := by decide +kernel
theorem dJ9_min_7cf53_6 : decode cJ9_min_7cf53 6 = .ok (.goto 4, 3) := by decide +kernel
theorem dJ9_min_7cf53_9 : decode cJ9_min_7cf53 9 = .ok (.iload_n 1, 1) := by decide +kernel
theorem dJ9_min_7cf53_10 : decode cJ9_min_7cf53 10 = .ok (.ireturn, 1) := by decide +kernel
end
section
theorem dL_acts_0 : decode cL_acts 0 = .ok (.iload 4, 2) := by decide +kernel
theorem dL_acts_2 : decode cL_acts 2 = .ok (.iconst 5, 1) := by decide +kernel
theorem dL_acts_3 : decode cL_acts 3 = .ok (.ishr, 1) := by decide +kernel
theorem dL_acts_4 : decode cL_acts 4 = .ok (.ldc 65, 2) := by decide +kernel
theorem dL_acts_6 : decode cL_acts 6 = .ok (.invokestatic 66, 3) := by decide +kernel
theorem dL_acts_9 : decode cL_acts 9 = .ok (.istore 5, 2) := by decide +kernel
theorem dL_acts_11 : decode cL_acts 11 = .ok (.aload_n 1, 1) := by decide +kernel
theorem dL_acts_12 : decode cL_acts 12 = .ok (.bipush 9, 2) := by decide +kernel
theorem dL_acts_14 : decode cL_acts 14 = .ok (.iaload, 1) := by decide +kernel
theorem dL_acts_15 : decode cL_acts 15 = .ok (.ifCond .ne 7, 3) := by decide +kernel
theorem dL_acts_18 : decode cL_acts 18 = .ok (.iconst 0, 1) := by decide +kernel
theorem dL_acts_19 : decode cL_acts 19 = .ok (.goto 10, 3) := by decide +kernel
theorem dL_acts_22 : decode cL_acts 22 = .ok (.iload 5, 2) := by decide +kernel
theorem dL_acts_24 : decode cL_acts 24 = .ok (.aload_n 1, 1) := by decide +kernel
theorem dL_acts_25 : decode cL_acts 25 = .ok (.bipush 9, 2) := by decide +kernel
theorem dL_acts_27 : decode cL_acts 27 = .ok (.iaload, 1) := by decide +kernel
theorem dL_acts_28 : decode cL_acts 28 = .ok (.irem, 1) := by decide +kernel
theorem dL_acts_29 : decode cL_acts 29 = .ok (.istore 6, 2) := by decide +kernel
theorem dL_acts_31 : decode cL_acts 31 = .ok (.iload 5, 2) := by decide +kernel
theorem dL_acts_33 : decode cL_acts 33 = .ok (.iconst 4, 1) := by decide +kernel
theorem dL_acts_34 : decode cL_acts 34 = .ok (.irem, 1) := by decide +kernel
theorem dL_acts_35 : decode cL_acts 35 = .ok (.istore 7, 2) := by decide +kernel
theorem dL_acts_37 : decode cL_acts 37 = .ok (.iload 4, 2) := by decide +kernel
theorem dL_acts_39 : decode cL_acts 39 = .ok (.bipush 20, 2) := by decide +kernel
theorem dL_acts_41 : decode cL_acts 41 = .ok (.invokestatic 66, 3) := by decide +kernel
theorem dL_acts_44 : decode cL_acts 44 = .ok (.tableswitch 853 0 11 #[64, 64, 201, 201, 283, 283, 357, 419, 419, 419, 684, 750], 64) := by decide +kernel
theorem dL_acts_108 : decode cL_acts 108 = .ok (.aload_n 1, 1) := by decide +kernel
theorem dL_acts_109 : decode cL_acts 109 = .ok (.iconst 4, 1) := by decide +kernel
theorem dL_acts_110 : decode cL_acts 110 = .ok (.iload 5, 2) := by decide +kernel
theorem dL_acts_112 : decode cL_acts 112 = .ok (.bipush 60, 2) := by decide +kernel
theorem dL_acts_114 : decode cL_acts 114 = .ok (.irem, 1) := by decide +kernel
theorem dL_acts_115 : decode cL_acts 115 = .ok (.iastore, 1) := by decide +kernel
theorem dL_acts_116 : decode cL_acts 116 = .ok (.aload_n 1, 1) := by decide +kernel
theorem dL_acts_117 : decode cL_acts 117 = .ok (.iconst 5, 1) := by decide +kernel
theorem dL_acts_118 : decode cL_acts 118 = .ok (.iload 5, 2) := by decide +kernel
theorem dL_acts_120 : decode cL_acts 120 = .ok (.bipush 60, 2) := by decide +kernel
theorem dL_acts_122 : decode cL_acts 122 = .ok (.idiv, 1) := by decide +kernel
theorem dL_acts_123 : decode cL_acts 123 = .ok (.bipush 60, 2) := by decide +kernel
theorem dL_acts_125 : decode cL_acts 125 = .ok (.irem, 1) := by decide +kernel
theorem dL_acts_126 : decode cL_acts 126 = .ok (.iastore, 1) := by decide +kernel
theorem dL_acts_127 : decode cL_acts 127 = .ok (.aload_n 1, 1) := by decide +kernel
theorem dL_acts_128 : decode cL_acts 128 = .ok (.bipush 6, 2) := by decide +kernel
theorem dL_acts_130 : decode cL_acts 130 = .ok (.bipush 10, 2) := by decide +kernel
theorem dL_acts_132 : decode cL_acts 132 = .ok (.iload 5, 2) := by decide +kernel
theorem dL_acts_134 : decode cL_acts 134 = .ok (.sipush 3600, 3) := by decide +kernel
theorem dL_acts_137 : decode cL_acts 137 = .ok (.idiv, 1) := by decide +kernel
theorem dL_acts_138 : decode cL_acts 138 = .ok (.iload 5, 2) := by decide +kernel
theorem dL_acts_140 : decode cL_acts 140 = .ok (.iconst 3, 1) := by decide +kernel
theorem dL_acts_141 : decode cL_acts 141 = .ok (.irem, 1) := by decide +kernel
theorem dL_acts_142 : decode cL_acts 142 = .ok (.ifCond .ne 9, 3) := by decide +kernel
theorem dL_acts_145 : decode cL_acts 145 = .ok (.sipush 191, 3) := by decide +kernel
theorem dL_acts_148 : decode cL_acts 148 = .ok (.goto 5, 3) := by decide +kernel
theorem dL_acts_151 : decode cL_acts 151 = .ok (.bipush 60, 2) := by decide +kernel
theorem dL_acts_153 : decode cL_acts 153 = .ok (.irem, 1) := by decide +kernel
theorem dL_acts_154 : decode cL_acts 154 = .ok (.iadd, 1) := by decide +kernel
theorem dL_acts_155 : decode cL_acts 155 = .ok (.iastore, 1) := by decide +kernel
theorem dL_acts_156 : decode cL_acts 156 = .ok (.aload_n 1, 1) := by decide +kernel
theorem dL_acts_157 : decode cL_acts 157 = .ok (.bipush 7, 2) := by decide +kernel
theorem dL_acts_159 : decode cL_acts 159 = .ok (.bipush 10, 2) := by decide +kernel
theorem dL_acts_161 : decode cL_acts 161 = .ok (.iload 5, 2) := by decide +kernel
theorem dL_acts_163 : decode cL_acts 163 = .ok (.bipush 7, 2) := by decide +kernel
theorem dL_acts_165 : decode cL_acts 165 = .ok (.idiv, 1) := by decide +kernel
theorem dL_acts_166 : decode cL_acts 166 = .ok (.iload 5, 2) := by decide +kernel
theorem dL_acts_168 : decode cL_acts 168 = .ok (.iconst 3, 1) := by decide +kernel
theorem dL_acts_169 : decode cL_acts 169 = .ok (.irem, 1) := by decide +kernel
theorem dL_acts_170 : decode cL_acts 170 = .ok (.ifCond .ne 9, 3) := by decide +kernel
theorem dL_acts_173 : decode cL_acts 173 = .ok (.sipush 191, 3) := by decide +kernel
theorem dL_acts_176 : decode cL_acts 176 = .ok (.goto 5, 3) := by decide +kernel
theorem dL_acts_179 : decode cL_acts 179 = .ok (.bipush 60, 2) := by decide +kernel
theorem dL_acts_181 : decode cL_acts 181 = .ok (.irem, 1) := by decide +kernel
theorem dL_acts_182 : decode cL_acts 182 = .ok (.iadd, 1) := by decide +kernel
theorem dL_acts_183 : decode cL_acts 183 = .ok (.iastore, 1) := by decide +kernel
theorem dL_acts_184 : decode cL_acts 184 = .ok (.aload_n 1, 1) := by decide +kernel
theorem dL_acts_185 : decode cL_acts 185 = .ok (.bipush 8, 2) := by decide +kernel
theorem dL_acts_187 : decode cL_acts 187 = .ok (.iload 5, 2) := by decide +kernel
theorem dL_acts_189 : decode cL_acts 189 = .ok (.iconst 5, 1) := by decide +kernel
theorem dL_acts_190 : decode cL_acts 190 = .ok (.irem, 1) := by decide +kernel
theorem dL_acts_191 : decode cL_acts 191 = .ok (.ifCond .le 7, 3) := by decide +kernel
theorem dL_acts_194 : decode cL_acts 194 = .ok (.iconst 5, 1) := by decide +kernel
theorem dL_acts_195 : decode cL_acts 195 = .ok (.goto 10, 3) := by decide +kernel
theorem dL_acts_198 : decode cL_acts 198 = .ok (.iload 5, 2) := by decide +kernel
theorem dL_acts_200 : decode cL_acts 200 = .ok (.iconst 5, 1) := by decide +kernel
theorem dL_acts_201 : decode cL_acts 201 = .ok (.idiv, 1) := by decide +kernel
theorem dL_acts_202 : decode cL_acts 202 = .ok (.bipush 6, 2) := by decide +kernel
theorem dL_acts_204 : decode cL_acts 204 = .ok (.irem, 1) := by decide +kernel
theorem dL_acts_205 : decode cL_acts 205 = .ok (.iastore, 1) := by decide +kernel
theorem dL_acts_206 : decode cL_acts 206 = .ok (.aload_n 0, 1) := by decide +kernel
theorem dL_acts_207 : decode cL_acts 207 = .ok (.aload_n 1, 1) := by decide +kernel
theorem dL_acts_208 : decode cL_acts 208 = .ok (.iconst 4, 1) := by decide +kernel
theorem dL_acts_209 : decode cL_acts 209 = .ok (.iaload, 1) := by decide +kernel
theorem dL_acts_210 : decode cL_acts 210 = .ok (.aload_n 1, 1) := by decide +kernel
theorem dL_acts_211 : decode cL_acts 211 = .ok (.iconst 5, 1) := by decide +kernel
theorem dL_acts_212 : decode cL_acts 212 = .ok (.iaload, 1) := by decide +kernel
theorem dL_acts_213 : decode cL_acts 213 = .ok (.aload_n 1, 1) := by decide +kernel
theorem dL_acts_214 : decode cL_acts 214 = .ok (.bipush 6, 2) := by decide +kernel
theorem dL_acts_216 : decode cL_acts 216 = .ok (.iaload, 1) := by decide +kernel
theorem dL_acts_217 : decode cL_acts 217 = .ok (.aload_n 1, 1) := by decide +kernel
theorem dL_acts_218 : decode cL_acts 218 = .ok (.bipush 7, 2) := by decide +kernel
theorem dL_acts_220 : decode cL_acts 220 = .ok (.iaload, 1) := by decide +kernel
theorem dL_acts_221 : decode cL_acts 221 = .ok (.aload_n 1, 1) := by decide +kernel
theorem dL_acts_222 : decode cL_acts 222 = .ok (.bipush 8, 2) := by decide +kernel
theorem dL_acts_224 : decode cL_acts 224 = .ok (.iaload, 1) := by decide +kernel
theorem dL_acts_225 : decode cL_acts 225 = .ok (.invokestatic 70, 3) := by decide +kernel
theorem dL_acts_228 : decode cL_acts 228 = .ok (.aload_n 1, 1) := by decide +kernel
theorem dL_acts_229 : decode cL_acts 229 = .ok (.aload_n 3, 1) := by decide +kernel
theorem dL_acts_230 : decode cL_acts 230 = .ok (.invokestatic 46, 3) := by decide +kernel
theorem dL_acts_233 : decode cL_acts 233 = .ok (.invokestatic 31, 3) := by decide +kernel
theorem dL_acts_236 : decode cL_acts 236 = .ok (.if_icmp .ne 7, 3) := by decide +kernel
theorem dL_acts_239 : decode cL_acts 239 = .ok (.iconst 1, 1) := by decide +kernel
theorem dL_acts_240 : decode cL_acts 240 = .ok (.goto 4, 3) := by decide +kernel
theorem dL_acts_243 : decode cL_acts 243 = .ok (.iconst 0, 1) := by decide +kernel
theorem dL_acts_244 : decode cL_acts 244 = .ok (.ireturn, 1) := by decide +kernel
theorem dL_acts_245 : decode cL_acts 245 = .ok (.iload 5, 2) := by decide +kernel
theorem dL_acts_247 : decode cL_acts 247 = .ok (.iconst 4, 1) := by decide +kernel
theorem dL_acts_248 : decode cL_acts 248 = .ok (.idiv, 1) := by decide +kernel
theorem dL_acts_249 : decode cL_acts 249 = .ok (.iconst 4, 1) := by decide +kernel
theorem dL_acts_250 : decode cL_acts 250 = .ok (.irem, 1) := by decide +kernel
theorem dL_acts_251 : decode cL_acts 251 = .ok (.istore 8, 2) := by decide +kernel
theorem dL_acts_253 : decode cL_acts 253 = .ok (.iconst 1, 1) := by decide +kernel
theorem dL_acts_254 : decode cL_acts 254 = .ok (.iload 5, 2) := by decide +kernel
theorem dL_acts_256 : decode cL_acts 256 = .ok (.bipush 16, 2) := by decide +kernel
theorem dL_acts_258 : decode cL_acts 258 = .ok (.idiv, 1) := by decide +kernel
theorem dL_acts_259 : decode cL_acts 259 = .ok (.iload 8, 2) := by decide +kernel
theorem dL_acts_261 : decode cL_acts 261 = .ok (.ifCond .ne 8, 3) := by decide +kernel
theorem dL_acts_264 : decode cL_acts 264 = .ok (.bipush 6, 2) := by decide +kernel
theorem dL_acts_266 : decode cL_acts 266 = .ok (.goto 26, 3) := by decide +kernel
theorem dL_acts_269 : decode cL_acts 269 = .ok (.iload 8, 2) := by decide +kernel
theorem dL_acts_271 : decode cL_acts 271 = .ok (.iconst 1, 1) := by decide +kernel
theorem dL_acts_272 : decode cL_acts 272 = .ok (.if_icmp .ne 7, 3) := by decide +kernel
theorem dL_acts_275 : decode cL_acts 275 = .ok (.iconst 4, 1) := by decide +kernel
theorem dL_acts_276 : decode cL_acts 276 = .ok (.goto 16, 3) := by decide +kernel
theorem dL_acts_279 : decode cL_acts 279 = .ok (.iload 8, 2) := by decide +kernel
theorem dL_acts_281 : decode cL_acts 281 = .ok (.iconst 2, 1) := by decide +kernel
theorem dL_acts_282 : decode cL_acts 282 = .ok (.if_icmp .ne 8, 3) := by decide +kernel
theorem dL_acts_285 : decode cL_acts 285 = .ok (.bipush 60, 2) := by decide +kernel
theorem dL_acts_287 : decode cL_acts 287 = .ok (.goto 5, 3) := by decide +kernel
theorem dL_acts_290 : decode cL_acts 290 = .ok (.bipush 20, 2) := by decide +kernel
theorem dL_acts_292 : decode cL_acts 292 = .ok (.irem, 1) := by decide +kernel
theorem dL_acts_293 : decode cL_acts 293 = .ok (.iadd, 1) := by decide +kernel
theorem dL_acts_294 : decode cL_acts 294 = .ok (.istore 9, 2) := by decide +kernel
theorem dL_acts_296 : decode cL_acts 296 = .ok (.aload_n 1, 1) := by decide +kernel
theorem dL_acts_297 : decode cL_acts 297 = .ok (.iload 8, 2) := by decide +kernel
theorem dL_acts_299 : decode cL_acts 299 = .ok (.iaload, 1) := by decide +kernel
theorem dL_acts_300 : decode cL_acts 300 = .ok (.istore 10, 2) := by decide +kernel
theorem dL_acts_302 : decode cL_acts 302 = .ok (.aload_n 1, 1) := by decide +kernel
theorem dL_acts_303 : decode cL_acts 303 = .ok (.iload 8, 2) := by decide +kernel
theorem dL_acts_305 : decode cL_acts 305 = .ok (.iload 9, 2) := by decide +kernel
theorem dL_acts_307 : decode cL_acts 307 = .ok (.iastore, 1) := by decide +kernel
theorem dL_acts_308 : decode cL_acts 308 = .ok (.aload_n 0, 1) := by decide +kernel
theorem dL_acts_309 : decode cL_acts 309 = .ok (.iload 8, 2) := by decide +kernel
theorem dL_acts_311 : decode cL_acts 311 = .ok (.iload 9, 2) := by decide +kernel
theorem dL_acts_313 : decode cL_acts 313 = .ok (.invokestatic 74, 3) := by decide +kernel
theorem dL_acts_316 : decode cL_acts 316 = .ok (.iload 10, 2) := by decide +kernel
theorem dL_acts_318 : decode cL_acts 318 = .ok (.if_icmp .ne 7, 3) := by decide +kernel
theorem dL_acts_321 : decode cL_acts 321 = .ok (.iconst 1, 1) := by decide +kernel
theorem dL_acts_322 : decode cL_acts 322 = .ok (.goto 4, 3) := by decide +kernel
theorem dL_acts_325 : decode cL_acts 325 = .ok (.iconst 0, 1) := by decide +kernel
theorem dL_acts_326 : decode cL_acts 326 = .ok (.ireturn, 1) := by decide +kernel
theorem dL_acts_327 : decode cL_acts 327 = .ok (.aload_n 2, 1) := by decide +kernel
theorem dL_acts_328 : decode cL_acts 328 = .ok (.bipush 8, 2) := by decide +kernel
theorem dL_acts_330 : decode cL_acts 330 = .ok (.iload 7, 2) := by decide +kernel
theorem dL_acts_332 : decode cL_acts 332 = .ok (.imul, 1) := by decide +kernel
theorem dL_acts_333 : decode cL_acts 333 = .ok (.iaload, 1) := by decide +kernel
theorem dL_acts_334 : decode cL_acts 334 = .ok (.istore 11, 2) := by decide +kernel
theorem dL_acts_336 : decode cL_acts 336 = .ok (.aload_n 2, 1) := by decide +kernel
theorem dL_acts_337 : decode cL_acts 337 = .ok (.bipush 8, 2) := by decide +kernel
theorem dL_acts_339 : decode cL_acts 339 = .ok (.iload 7, 2) := by decide +kernel
theorem dL_acts_341 : decode cL_acts 341 = .ok (.imul, 1) := by decide +kernel
theorem dL_acts_342 : decode cL_acts 342 = .ok (.iload 5, 2) := by decide +kernel
theorem dL_acts_344 : decode cL_acts 344 = .ok (.iconst 4, 1) := by decide +kernel
theorem dL_acts_345 : decode cL_acts 345 = .ok (.idiv, 1) := by decide +kernel
theorem dL_acts_346 : decode cL_acts 346 = .ok (.bipush 7, 2) := by decide +kernel
theorem dL_acts_348 : decode cL_acts 348 = .ok (.irem, 1) := by decide +kernel
theorem dL_acts_349 : decode cL_acts 349 = .ok (.iastore, 1) := by decide +kernel
theorem dL_acts_350 : decode cL_acts 350 = .ok (.aload_n 2, 1) := by decide +kernel
theorem dL_acts_351 : decode cL_acts 351 = .ok (.bipush 8, 2) := by decide +kernel
theorem dL_acts_353 : decode cL_acts 353 = .ok (.iload 7, 2) := by decide +kernel
theorem dL_acts_355 : decode cL_acts 355 = .ok (.imul, 1) := by decide +kernel
theorem dL_acts_356 : decode cL_acts 356 = .ok (.iconst 1, 1) := by decide +kernel
theorem dL_acts_357 : decode cL_acts 357 = .ok (.iadd, 1) := by decide +kernel
theorem dL_acts_358 : decode cL_acts 358 = .ok (.iload 5, 2) := by decide +kernel
theorem dL_acts_360 : decode cL_acts 360 = .ok (.bipush 28, 2) := by decide +kernel
theorem dL_acts_362 : decode cL_acts 362 = .ok (.idiv, 1) := by decide +kernel
theorem dL_acts_363 : decode cL_acts 363 = .ok (.iconst 4, 1) := by decide +kernel
theorem dL_acts_364 : decode cL_acts 364 = .ok (.irem, 1) := by decide +kernel
theorem dL_acts_365 : decode cL_acts 365 = .ok (.iconst 1, 1) := by decide +kernel
theorem dL_acts_366 : decode cL_acts 366 = .ok (.isub, 1) := by decide +kernel
theorem dL_acts_367 : decode cL_acts 367 = .ok (.iastore, 1) := by decide +kernel
theorem dL_acts_368 : decode cL_acts 368 = .ok (.aload_n 0, 1) := by decide +kernel
theorem dL_acts_369 : decode cL_acts 369 = .ok (.iload 7, 2) := by decide +kernel
theorem dL_acts_371 : decode cL_acts 371 = .ok (.aload_n 2, 1) := by decide +kernel
theorem dL_acts_372 : decode cL_acts 372 = .ok (.bipush 8, 2) := by decide +kernel
theorem dL_acts_374 : decode cL_acts 374 = .ok (.iload 7, 2) := by decide +kernel
theorem dL_acts_376 : decode cL_acts 376 = .ok (.imul, 1) := by decide +kernel
theorem dL_acts_377 : decode cL_acts 377 = .ok (.iaload, 1) := by decide +kernel
theorem dL_acts_378 : decode cL_acts 378 = .ok (.aload_n 2, 1) := by decide +kernel
theorem dL_acts_379 : decode cL_acts 379 = .ok (.bipush 8, 2) := by decide +kernel
theorem dL_acts_381 : decode cL_acts 381 = .ok (.iload 7, 2) := by decide +kernel
theorem dL_acts_383 : decode cL_acts 383 = .ok (.imul, 1) := by decide +kernel
theorem dL_acts_384 : decode cL_acts 384 = .ok (.iconst 1, 1) := by decide +kernel
theorem dL_acts_385 : decode cL_acts 385 = .ok (.iadd, 1) := by decide +kernel
theorem dL_acts_386 : decode cL_acts 386 = .ok (.iaload, 1) := by decide +kernel
theorem dL_acts_387 : decode cL_acts 387 = .ok (.invokestatic 78, 3) := by decide +kernel
theorem dL_acts_390 : decode cL_acts 390 = .ok (.iload 11, 2) := by decide +kernel
theorem dL_acts_392 : decode cL_acts 392 = .ok (.if_icmp .ne 7, 3) := by decide +kernel
theorem dL_acts_395 : decode cL_acts 395 = .ok (.iconst 1, 1) := by decide +kernel
theorem dL_acts_396 : decode cL_acts 396 = .ok (.goto 4, 3) := by decide +kernel
theorem dL_acts_399 : decode cL_acts 399 = .ok (.iconst 0, 1) := by decide +kernel
theorem dL_acts_400 : decode cL_acts 400 = .ok (.ireturn, 1) := by decide +kernel
theorem dL_acts_401 : decode cL_acts 401 = .ok (.aload_n 1, 1) := by decide +kernel
theorem dL_acts_402 : decode cL_acts 402 = .ok (.bipush 10, 2) := by decide +kernel
theorem dL_acts_404 : decode cL_acts 404 = .ok (.iload 5, 2) := by decide +kernel
theorem dL_acts_406 : decode cL_acts 406 = .ok (.iconst 3, 1) := by decide +kernel
theorem dL_acts_407 : decode cL_acts 407 = .ok (.irem, 1) := by decide +kernel
theorem dL_acts_408 : decode cL_acts 408 = .ok (.iadd, 1) := by decide +kernel
theorem dL_acts_409 : decode cL_acts 409 = .ok (.iaload, 1) := by decide +kernel
theorem dL_acts_410 : decode cL_acts 410 = .ok (.istore 12, 2) := by decide +kernel
theorem dL_acts_412 : decode cL_acts 412 = .ok (.aload_n 1, 1) := by decide +kernel
theorem dL_acts_413 : decode cL_acts 413 = .ok (.bipush 10, 2) := by decide +kernel
theorem dL_acts_415 : decode cL_acts 415 = .ok (.iload 5, 2) := by decide +kernel
theorem dL_acts_417 : decode cL_acts 417 = .ok (.iconst 3, 1) := by decide +kernel
theorem dL_acts_418 : decode cL_acts 418 = .ok (.irem, 1) := by decide +kernel
theorem dL_acts_419 : decode cL_acts 419 = .ok (.iadd, 1) := by decide +kernel
theorem dL_acts_420 : decode cL_acts 420 = .ok (.iload 5, 2) := by decide +kernel
theorem dL_acts_422 : decode cL_acts 422 = .ok (.iconst 3, 1) := by decide +kernel
theorem dL_acts_423 : decode cL_acts 423 = .ok (.idiv, 1) := by decide +kernel
theorem dL_acts_424 : decode cL_acts 424 = .ok (.iconst 4, 1) := by decide +kernel
theorem dL_acts_425 : decode cL_acts 425 = .ok (.irem, 1) := by decide +kernel
theorem dL_acts_426 : decode cL_acts 426 = .ok (.ifCond .le 7, 3) := by decide +kernel
theorem dL_acts_429 : decode cL_acts 429 = .ok (.iconst 1, 1) := by decide +kernel
theorem dL_acts_430 : decode cL_acts 430 = .ok (.goto 4, 3) := by decide +kernel
theorem dL_acts_433 : decode cL_acts 433 = .ok (.iconst 0, 1) := by decide +kernel
theorem dL_acts_434 : decode cL_acts 434 = .ok (.iastore, 1) := by decide +kernel
theorem dL_acts_435 : decode cL_acts 435 = .ok (.aload_n 0, 1) := by decide +kernel
theorem dL_acts_436 : decode cL_acts 436 = .ok (.iload 5, 2) := by decide +kernel
theorem dL_acts_438 : decode cL_acts 438 = .ok (.iconst 3, 1) := by decide +kernel
theorem dL_acts_439 : decode cL_acts 439 = .ok (.irem, 1) := by decide +kernel
theorem dL_acts_440 : decode cL_acts 440 = .ok (.aload_n 1, 1) := by decide +kernel
theorem dL_acts_441 : decode cL_acts 441 = .ok (.bipush 10, 2) := by decide +kernel
theorem dL_acts_443 : decode cL_acts 443 = .ok (.iload 5, 2) := by decide +kernel
theorem dL_acts_445 : decode cL_acts 445 = .ok (.iconst 3, 1) := by decide +kernel
theorem dL_acts_446 : decode cL_acts 446 = .ok (.irem, 1) := by decide +kernel
theorem dL_acts_447 : decode cL_acts 447 = .ok (.iadd, 1) := by decide +kernel
theorem dL_acts_448 : decode cL_acts 448 = .ok (.iaload, 1) := by decide +kernel
theorem dL_acts_449 : decode cL_acts 449 = .ok (.invokestatic 82, 3) := by decide +kernel
theorem dL_acts_452 : decode cL_acts 452 = .ok (.iload 12, 2) := by decide +kernel
theorem dL_acts_454 : decode cL_acts 454 = .ok (.if_icmp .ne 7, 3) := by decide +kernel
theorem dL_acts_457 : decode cL_acts 457 = .ok (.iconst 1, 1) := by decide +kernel
theorem dL_acts_458 : decode cL_acts 458 = .ok (.goto 4, 3) := by decide +kernel
theorem dL_acts_461 : decode cL_acts 461 = .ok (.iconst 0, 1) := by decide +kernel
theorem dL_acts_462 : decode cL_acts 462 = .ok (.ireturn, 1) := by decide +kernel
theorem dL_acts_463 : decode cL_acts 463 = .ok (.iconst 1, 1) := by decide +kernel
theorem dL_acts_464 : decode cL_acts 464 = .ok (.iload 5, 2) := by decide +kernel
theorem dL_acts_466 : decode cL_acts 466 = .ok (.iconst 4, 1) := by decide +kernel
theorem dL_acts_467 : decode cL_acts 467 = .ok (.idiv, 1) := by decide +kernel
theorem dL_acts_468 : decode cL_acts 468 = .ok (.bipush 8, 2) := by decide +kernel
theorem dL_acts_470 : decode cL_acts 470 = .ok (.irem, 1) := by decide +kernel
theorem dL_acts_471 : decode cL_acts 471 = .ok (.bipush 11, 2) := by decide +kernel
theorem dL_acts_473 : decode cL_acts 473 = .ok (.imul, 1) := by decide +kernel
theorem dL_acts_474 : decode cL_acts 474 = .ok (.iadd, 1) := by decide +kernel
theorem dL_acts_475 : decode cL_acts 475 = .ok (.istore 13, 2) := by decide +kernel
theorem dL_acts_477 : decode cL_acts 477 = .ok (.bipush 8, 2) := by decide +kernel
theorem dL_acts_479 : decode cL_acts 479 = .ok (.iload 7, 2) := by decide +kernel
theorem dL_acts_481 : decode cL_acts 481 = .ok (.imul, 1) := by decide +kernel
theorem dL_acts_482 : decode cL_acts 482 = .ok (.iconst 2, 1) := by decide +kernel
theorem dL_acts_483 : decode cL_acts 483 = .ok (.iadd, 1) := by decide +kernel
theorem dL_acts_484 : decode cL_acts 484 = .ok (.istore 14, 2) := by decide +kernel
theorem dL_acts_486 : decode cL_acts 486 = .ok (.iconst 0, 1) := by decide +kernel
theorem dL_acts_487 : decode cL_acts 487 = .ok (.istore 15, 2) := by decide +kernel
theorem dL_acts_489 : decode cL_acts 489 = .ok (.iconst 0, 1) := by decide +kernel
theorem dL_acts_490 : decode cL_acts 490 = .ok (.istore 16, 2) := by decide +kernel
theorem dL_acts_492 : decode cL_acts 492 = .ok (.iconst 0, 1) := by decide +kernel
theorem dL_acts_493 : decode cL_acts 493 = .ok (.istore 17, 2) := by decide +kernel
theorem dL_acts_495 : decode cL_acts 495 = .ok (.iload 17, 2) := by decide +kernel
theorem dL_acts_497 : decode cL_acts 497 = .ok (.aload_n 2, 1) := by decide +kernel
theorem dL_acts_498 : decode cL_acts 498 = .ok (.iload 14, 2) := by decide +kernel
theorem dL_acts_500 : decode cL_acts 500 = .ok (.iaload, 1) := by decide +kernel
theorem dL_acts_501 : decode cL_acts 501 = .ok (.if_icmp .ge 59, 3) := by decide +kernel
theorem dL_acts_504 : decode cL_acts 504 = .ok (.iload 15, 2) := by decide +kernel
theorem dL_acts_506 : decode cL_acts 506 = .ok (.aload_n 2, 1) := by decide +kernel
theorem dL_acts_507 : decode cL_acts 507 = .ok (.iload 14, 2) := by decide +kernel
theorem dL_acts_509 : decode cL_acts 509 = .ok (.iconst 1, 1) := by decide +kernel
theorem dL_acts_510 : decode cL_acts 510 = .ok (.iadd, 1) := by decide +kernel
theorem dL_acts_511 : decode cL_acts 511 = .ok (.iload 17, 2) := by decide +kernel
theorem dL_acts_513 : decode cL_acts 513 = .ok (.iadd, 1) := by decide +kernel
theorem dL_acts_514 : decode cL_acts 514 = .ok (.iaload, 1) := by decide +kernel
theorem dL_acts_515 : decode cL_acts 515 = .ok (.iload 13, 2) := by decide +kernel
theorem dL_acts_517 : decode cL_acts 517 = .ok (.if_icmp .ge 7, 3) := by decide +kernel
theorem dL_acts_520 : decode cL_acts 520 = .ok (.iconst 1, 1) := by decide +kernel
theorem dL_acts_521 : decode cL_acts 521 = .ok (.goto 4, 3) := by decide +kernel
theorem dL_acts_524 : decode cL_acts 524 = .ok (.iconst 0, 1) := by decide +kernel
theorem dL_acts_525 : decode cL_acts 525 = .ok (.iadd, 1) := by decide +kernel
theorem dL_acts_526 : decode cL_acts 526 = .ok (.istore 15, 2) := by decide +kernel
theorem dL_acts_528 : decode cL_acts 528 = .ok (.iload 16, 2) := by decide +kernel
theorem dL_acts_530 : decode cL_acts 530 = .ok (.ifCond .ne 17, 3) := by decide +kernel
theorem dL_acts_533 : decode cL_acts 533 = .ok (.aload_n 2, 1) := by decide +kernel
theorem dL_acts_534 : decode cL_acts 534 = .ok (.iload 14, 2) := by decide +kernel
theorem dL_acts_536 : decode cL_acts 536 = .ok (.iconst 1, 1) := by decide +kernel
theorem dL_acts_537 : decode cL_acts 537 = .ok (.iadd, 1) := by decide +kernel
theorem dL_acts_538 : decode cL_acts 538 = .ok (.iload 17, 2) := by decide +kernel
theorem dL_acts_540 : decode cL_acts 540 = .ok (.iadd, 1) := by decide +kernel
theorem dL_acts_541 : decode cL_acts 541 = .ok (.iaload, 1) := by decide +kernel
theorem dL_acts_542 : decode cL_acts 542 = .ok (.iload 13, 2) := by decide +kernel
theorem dL_acts_544 : decode cL_acts 544 = .ok (.if_icmp .ne 7, 3) := by decide +kernel
theorem dL_acts_547 : decode cL_acts 547 = .ok (.iconst 1, 1) := by decide +kernel
theorem dL_acts_548 : decode cL_acts 548 = .ok (.goto 4, 3) := by decide +kernel
theorem dL_acts_551 : decode cL_acts 551 = .ok (.iconst 0, 1) := by decide +kernel
theorem dL_acts_552 : decode cL_acts 552 = .ok (.istore 16, 2) := by decide +kernel
theorem dL_acts_554 : decode cL_acts 554 = .ok (.iinc 17 1, 3) := by decide +kernel
theorem dL_acts_557 : decode cL_acts 557 = .ok (.goto (-62), 3) := by decide +kernel
theorem dL_acts_560 : decode cL_acts 560 = .ok (.iload 16, 2) := by decide +kernel
theorem dL_acts_562 : decode cL_acts 562 = .ok (.ifCond .ne 30, 3) := by decide +kernel
theorem dL_acts_565 : decode cL_acts 565 = .ok (.aload_n 2, 1) := by decide +kernel
theorem dL_acts_566 : decode cL_acts 566 = .ok (.iload 14, 2) := by decide +kernel
theorem dL_acts_568 : decode cL_acts 568 = .ok (.iaload, 1) := by decide +kernel
theorem dL_acts_569 : decode cL_acts 569 = .ok (.iconst 5, 1) := by decide +kernel
theorem dL_acts_570 : decode cL_acts 570 = .ok (.if_icmp .ne 22, 3) := by decide +kernel
theorem dL_acts_573 : decode cL_acts 573 = .ok (.aload_n 0, 1) := by decide +kernel
theorem dL_acts_574 : decode cL_acts 574 = .ok (.iload 7, 2) := by decide +kernel
theorem dL_acts_576 : decode cL_acts 576 = .ok (.iload 13, 2) := by decide +kernel
theorem dL_acts_578 : decode cL_acts 578 = .ok (.invokestatic 85, 3) := by decide +kernel
theorem dL_acts_581 : decode cL_acts 581 = .ok (.ldc 88, 2) := by decide +kernel
theorem dL_acts_583 : decode cL_acts 583 = .ok (.if_icmp .ne 7, 3) := by decide +kernel
theorem dL_acts_586 : decode cL_acts 586 = .ok (.iconst 1, 1) := by decide +kernel
theorem dL_acts_587 : decode cL_acts 587 = .ok (.goto 4, 3) := by decide +kernel
theorem dL_acts_590 : decode cL_acts 590 = .ok (.iconst 0, 1) := by decide +kernel
theorem dL_acts_591 : decode cL_acts 591 = .ok (.ireturn, 1) := by decide +kernel
theorem dL_acts_592 : decode cL_acts 592 = .ok (.iload 15, 2) := by decide +kernel
theorem dL_acts_594 : decode cL_acts 594 = .ok (.istore 17, 2) := by decide +kernel
theorem dL_acts_596 : decode cL_acts 596 = .ok (.iload 17, 2) := by decide +kernel
theorem dL_acts_598 : decode cL_acts 598 = .ok (.iconst 5, 1) := by decide +kernel
theorem dL_acts_599 : decode cL_acts 599 = .ok (.if_icmp .ge 42, 3) := by decide +kernel
theorem dL_acts_602 : decode cL_acts 602 = .ok (.iload 16, 2) := by decide +kernel
theorem dL_acts_604 : decode cL_acts 604 = .ok (.ifCond .eq 37, 3) := by decide +kernel
theorem dL_acts_607 : decode cL_acts 607 = .ok (.aload_n 2, 1) := by decide +kernel
theorem dL_acts_608 : decode cL_acts 608 = .ok (.iload 14, 2) := by decide +kernel
theorem dL_acts_610 : decode cL_acts 610 = .ok (.iconst 1, 1) := by decide +kernel
theorem dL_acts_611 : decode cL_acts 611 = .ok (.iadd, 1) := by decide +kernel
theorem dL_acts_612 : decode cL_acts 612 = .ok (.iload 17, 2) := by decide +kernel
theorem dL_acts_614 : decode cL_acts 614 = .ok (.iadd, 1) := by decide +kernel
theorem dL_acts_615 : decode cL_acts 615 = .ok (.iload 17, 2) := by decide +kernel
theorem dL_acts_617 : decode cL_acts 617 = .ok (.iconst 4, 1) := by decide +kernel
theorem dL_acts_618 : decode cL_acts 618 = .ok (.if_icmp .ge 15, 3) := by decide +kernel
theorem dL_acts_621 : decode cL_acts 621 = .ok (.aload_n 2, 1) := by decide +kernel
theorem dL_acts_622 : decode cL_acts 622 = .ok (.iload 14, 2) := by decide +kernel
theorem dL_acts_624 : decode cL_acts 624 = .ok (.iconst 2, 1) := by decide +kernel
theorem dL_acts_625 : decode cL_acts 625 = .ok (.iadd, 1) := by decide +kernel
theorem dL_acts_626 : decode cL_acts 626 = .ok (.iload 17, 2) := by decide +kernel
theorem dL_acts_628 : decode cL_acts 628 = .ok (.iadd, 1) := by decide +kernel
theorem dL_acts_629 : decode cL_acts 629 = .ok (.iaload, 1) := by decide +kernel
theorem dL_acts_630 : decode cL_acts 630 = .ok (.goto 4, 3) := by decide +kernel
theorem dL_acts_633 : decode cL_acts 633 = .ok (.iconst 0, 1) := by decide +kernel
theorem dL_acts_634 : decode cL_acts 634 = .ok (.iastore, 1) := by decide +kernel
theorem dL_acts_635 : decode cL_acts 635 = .ok (.iinc 17 1, 3) := by decide +kernel
theorem dL_acts_638 : decode cL_acts 638 = .ok (.goto (-42), 3) := by decide +kernel
theorem dL_acts_641 : decode cL_acts 641 = .ok (.iconst 4, 1) := by decide +kernel
theorem dL_acts_642 : decode cL_acts 642 = .ok (.istore 17, 2) := by decide +kernel
theorem dL_acts_644 : decode cL_acts 644 = .ok (.iload 17, 2) := by decide +kernel
theorem dL_acts_646 : decode cL_acts 646 = .ok (.iload 15, 2) := by decide +kernel
theorem dL_acts_648 : decode cL_acts 648 = .ok (.if_icmp .lt 42, 3) := by decide +kernel
theorem dL_acts_651 : decode cL_acts 651 = .ok (.iload 16, 2) := by decide +kernel
theorem dL_acts_653 : decode cL_acts 653 = .ok (.ifCond .ne 37, 3) := by decide +kernel
theorem dL_acts_656 : decode cL_acts 656 = .ok (.aload_n 2, 1) := by decide +kernel
theorem dL_acts_657 : decode cL_acts 657 = .ok (.iload 14, 2) := by decide +kernel
theorem dL_acts_659 : decode cL_acts 659 = .ok (.iconst 1, 1) := by decide +kernel
theorem dL_acts_660 : decode cL_acts 660 = .ok (.iadd, 1) := by decide +kernel
theorem dL_acts_661 : decode cL_acts 661 = .ok (.iload 17, 2) := by decide +kernel
theorem dL_acts_663 : decode cL_acts 663 = .ok (.iadd, 1) := by decide +kernel
theorem dL_acts_664 : decode cL_acts 664 = .ok (.iload 17, 2) := by decide +kernel
theorem dL_acts_666 : decode cL_acts 666 = .ok (.iload 15, 2) := by decide +kernel
theorem dL_acts_668 : decode cL_acts 668 = .ok (.if_icmp .ne 8, 3) := by decide +kernel
theorem dL_acts_671 : decode cL_acts 671 = .ok (.iload 13, 2) := by decide +kernel
theorem dL_acts_673 : decode cL_acts 673 = .ok (.goto 10, 3) := by decide +kernel
theorem dL_acts_676 : decode cL_acts 676 = .ok (.aload_n 2, 1) := by decide +kernel
theorem dL_acts_677 : decode cL_acts 677 = .ok (.iload 14, 2) := by decide +kernel
theorem dL_acts_679 : decode cL_acts 679 = .ok (.iload 17, 2) := by decide +kernel
theorem dL_acts_681 : decode cL_acts 681 = .ok (.iadd, 1) := by decide +kernel
theorem dL_acts_682 : decode cL_acts 682 = .ok (.iaload, 1) := by decide +kernel
theorem dL_acts_683 : decode cL_acts 683 = .ok (.iastore, 1) := by decide +kernel
theorem dL_acts_684 : decode cL_acts 684 = .ok (.iinc 17 (-1), 3) := by decide +kernel
theorem dL_acts_687 : decode cL_acts 687 = .ok (.goto (-43), 3) := by decide +kernel
theorem dL_acts_690 : decode cL_acts 690 = .ok (.aload_n 2, 1) := by decide +kernel
theorem dL_acts_691 : decode cL_acts 691 = .ok (.iload 14, 2) := by decide +kernel
theorem dL_acts_693 : decode cL_acts 693 = .ok (.dup2, 1) := by decide +kernel
theorem dL_acts_694 : decode cL_acts 694 = .ok (.iaload, 1) := by decide +kernel
theorem dL_acts_695 : decode cL_acts 695 = .ok (.iload 16, 2) := by decide +kernel
theorem dL_acts_697 : decode cL_acts 697 = .ok (.ifCond .eq 7, 3) := by decide +kernel
theorem dL_acts_700 : decode cL_acts 700 = .ok (.iconst (-1), 1) := by decide +kernel
theorem dL_acts_701 : decode cL_acts 701 = .ok (.goto 4, 3) := by decide +kernel
theorem dL_acts_704 : decode cL_acts 704 = .ok (.iconst 1, 1) := by decide +kernel
theorem dL_acts_705 : decode cL_acts 705 = .ok (.iadd, 1) := by decide +kernel
theorem dL_acts_706 : decode cL_acts 706 = .ok (.iastore, 1) := by decide +kernel
theorem dL_acts_707 : decode cL_acts 707 = .ok (.aload_n 0, 1) := by decide +kernel
theorem dL_acts_708 : decode cL_acts 708 = .ok (.iload 7, 2) := by decide +kernel
theorem dL_acts_710 : decode cL_acts 710 = .ok (.iload 13, 2) := by decide +kernel
theorem dL_acts_712 : decode cL_acts 712 = .ok (.invokestatic 85, 3) := by decide +kernel
theorem dL_acts_715 : decode cL_acts 715 = .ok (.aload_n 2, 1) := by decide +kernel
theorem dL_acts_716 : decode cL_acts 716 = .ok (.iload 14, 2) := by decide +kernel
theorem dL_acts_718 : decode cL_acts 718 = .ok (.iaload, 1) := by decide +kernel
theorem dL_acts_719 : decode cL_acts 719 = .ok (.if_icmp .ne 7, 3) := by decide +kernel
theorem dL_acts_722 : decode cL_acts 722 = .ok (.iconst 1, 1) := by decide +kernel
theorem dL_acts_723 : decode cL_acts 723 = .ok (.goto 4, 3) := by decide +kernel
theorem dL_acts_726 : decode cL_acts 726 = .ok (.iconst 0, 1) := by decide +kernel
theorem dL_acts_727 : decode cL_acts 727 = .ok (.ireturn, 1) := by decide +kernel
theorem dL_acts_728 : decode cL_acts 728 = .ok (.aload_n 1, 1) := by decide +kernel
theorem dL_acts_729 : decode cL_acts 729 = .ok (.bipush 9, 2) := by decide +kernel
theorem dL_acts_731 : decode cL_acts 731 = .ok (.iaload, 1) := by decide +kernel
theorem dL_acts_732 : decode cL_acts 732 = .ok (.ifCond .eq 10, 3) := by decide +kernel
theorem dL_acts_735 : decode cL_acts 735 = .ok (.iload 5, 2) := by decide +kernel
theorem dL_acts_737 : decode cL_acts 737 = .ok (.iconst 3, 1) := by decide +kernel
theorem dL_acts_738 : decode cL_acts 738 = .ok (.irem, 1) := by decide +kernel
theorem dL_acts_739 : decode cL_acts 739 = .ok (.ifCond .le 22, 3) := by decide +kernel
theorem dL_acts_742 : decode cL_acts 742 = .ok (.aload_n 0, 1) := by decide +kernel
theorem dL_acts_743 : decode cL_acts 743 = .ok (.aload_n 1, 1) := by decide +kernel
theorem dL_acts_744 : decode cL_acts 744 = .ok (.bipush 9, 2) := by decide +kernel
theorem dL_acts_746 : decode cL_acts 746 = .ok (.iaload, 1) := by decide +kernel
theorem dL_acts_747 : decode cL_acts 747 = .ok (.invokestatic 89, 3) := by decide +kernel
theorem dL_acts_750 : decode cL_acts 750 = .ok (.ldc 93, 2) := by decide +kernel
theorem dL_acts_752 : decode cL_acts 752 = .ok (.if_icmp .ne 7, 3) := by decide +kernel
theorem dL_acts_755 : decode cL_acts 755 = .ok (.iconst 1, 1) := by decide +kernel
theorem dL_acts_756 : decode cL_acts 756 = .ok (.goto 4, 3) := by decide +kernel
theorem dL_acts_759 : decode cL_acts 759 = .ok (.iconst 0, 1) := by decide +kernel
theorem dL_acts_760 : decode cL_acts 760 = .ok (.ireturn, 1) := by decide +kernel
theorem dL_acts_761 : decode cL_acts 761 = .ok (.aload_n 3, 1) := by decide +kernel
theorem dL_acts_762 : decode cL_acts 762 = .ok (.iload 6, 2) := by decide +kernel
theorem dL_acts_764 : decode cL_acts 764 = .ok (.invokestatic 94, 3) := by decide +kernel
theorem dL_acts_767 : decode cL_acts 767 = .ok (.aload_n 1, 1) := by decide +kernel
theorem dL_acts_768 : decode cL_acts 768 = .ok (.bipush 9, 2) := by decide +kernel
theorem dL_acts_770 : decode cL_acts 770 = .ok (.dup2, 1) := by decide +kernel
theorem dL_acts_771 : decode cL_acts 771 = .ok (.iaload, 1) := by decide +kernel
theorem dL_acts_772 : decode cL_acts 772 = .ok (.iconst 1, 1) := by decide +kernel
theorem dL_acts_773 : decode cL_acts 773 = .ok (.isub, 1) := by decide +kernel
theorem dL_acts_774 : decode cL_acts 774 = .ok (.iastore, 1) := by decide +kernel
theorem dL_acts_775 : decode cL_acts 775 = .ok (.aload_n 0, 1) := by decide +kernel
theorem dL_acts_776 : decode cL_acts 776 = .ok (.iload 6, 2) := by decide +kernel
theorem dL_acts_778 : decode cL_acts 778 = .ok (.invokestatic 89, 3) := by decide +kernel
theorem dL_acts_781 : decode cL_acts 781 = .ok (.aload_n 1, 1) := by decide +kernel
theorem dL_acts_782 : decode cL_acts 782 = .ok (.bipush 9, 2) := by decide +kernel
theorem dL_acts_784 : decode cL_acts 784 = .ok (.iaload, 1) := by decide +kernel
theorem dL_acts_785 : decode cL_acts 785 = .ok (.if_icmp .ne 7, 3) := by decide +kernel
theorem dL_acts_788 : decode cL_acts 788 = .ok (.iconst 1, 1) := by decide +kernel
theorem dL_acts_789 : decode cL_acts 789 = .ok (.goto 4, 3) := by decide +kernel
theorem dL_acts_792 : decode cL_acts 792 = .ok (.iconst 0, 1) := by decide +kernel
theorem dL_acts_793 : decode cL_acts 793 = .ok (.ireturn, 1) := by decide +kernel
theorem dL_acts_794 : decode cL_acts 794 = .ok (.aload_n 1, 1) := by decide +kernel
theorem dL_acts_795 : decode cL_acts 795 = .ok (.bipush 9, 2) := by decide +kernel
theorem dL_acts_797 : decode cL_acts 797 = .ok (.iaload, 1) := by decide +kernel
theorem dL_acts_798 : decode cL_acts 798 = .ok (.ifCond .ne 23, 3) := by decide +kernel
theorem dL_acts_801 : decode cL_acts 801 = .ok (.aload_n 0, 1) := by decide +kernel
theorem dL_acts_802 : decode cL_acts 802 = .ok (.iconst 0, 1) := by decide +kernel
theorem dL_acts_803 : decode cL_acts 803 = .ok (.sipush 200, 3) := by decide +kernel
theorem dL_acts_806 : decode cL_acts 806 = .ok (.iconst 0, 1) := by decide +kernel
theorem dL_acts_807 : decode cL_acts 807 = .ok (.invokestatic 98, 3) := by decide +kernel
theorem dL_acts_810 : decode cL_acts 810 = .ok (.ldc 93, 2) := by decide +kernel
theorem dL_acts_812 : decode cL_acts 812 = .ok (.if_icmp .ne 7, 3) := by decide +kernel
theorem dL_acts_815 : decode cL_acts 815 = .ok (.iconst 1, 1) := by decide +kernel
theorem dL_acts_816 : decode cL_acts 816 = .ok (.goto 4, 3) := by decide +kernel
theorem dL_acts_819 : decode cL_acts 819 = .ok (.iconst 0, 1) := by decide +kernel
theorem dL_acts_820 : decode cL_acts 820 = .ok (.ireturn, 1) := by decide +kernel
theorem dL_acts_821 : decode cL_acts 821 = .ok (.aload_n 3, 1) := by decide +kernel
theorem dL_acts_822 : decode cL_acts 822 = .ok (.iconst 5, 1) := by decide +kernel
theorem dL_acts_823 : decode cL_acts 823 = .ok (.iload 6, 2) := by decide +kernel
theorem dL_acts_825 : decode cL_acts 825 = .ok (.imul, 1) := by decide +kernel
theorem dL_acts_826 : decode cL_acts 826 = .ok (.iconst 1, 1) := by decide +kernel
theorem dL_acts_827 : decode cL_acts 827 = .ok (.iadd, 1) := by decide +kernel
theorem dL_acts_828 : decode cL_acts 828 = .ok (.iaload, 1) := by decide +kernel
theorem dL_acts_829 : decode cL_acts 829 = .ok (.istore 17, 2) := by decide +kernel
theorem dL_acts_831 : decode cL_acts 831 = .ok (.aload_n 3, 1) := by decide +kernel
theorem dL_acts_832 : decode cL_acts 832 = .ok (.iconst 5, 1) := by decide +kernel
theorem dL_acts_833 : decode cL_acts 833 = .ok (.iload 6, 2) := by decide +kernel
theorem dL_acts_835 : decode cL_acts 835 = .ok (.imul, 1) := by decide +kernel
theorem dL_acts_836 : decode cL_acts 836 = .ok (.iconst 1, 1) := by decide +kernel
theorem dL_acts_837 : decode cL_acts 837 = .ok (.iadd, 1) := by decide +kernel
theorem dL_acts_838 : decode cL_acts 838 = .ok (.iload 5, 2) := by decide +kernel
theorem dL_acts_840 : decode cL_acts 840 = .ok (.bipush 12, 2) := by decide +kernel
theorem dL_acts_842 : decode cL_acts 842 = .ok (.idiv, 1) := by decide +kernel
theorem dL_acts_843 : decode cL_acts 843 = .ok (.bipush 120, 2) := by decide +kernel
theorem dL_acts_845 : decode cL_acts 845 = .ok (.irem, 1) := by decide +kernel
theorem dL_acts_846 : decode cL_acts 846 = .ok (.iastore, 1) := by decide +kernel
theorem dL_acts_847 : decode cL_acts 847 = .ok (.aload_n 3, 1) := by decide +kernel
theorem dL_acts_848 : decode cL_acts 848 = .ok (.iconst 5, 1) := by decide +kernel
theorem dL_acts_849 : decode cL_acts 849 = .ok (.iload 6, 2) := by decide +kernel
theorem dL_acts_851 : decode cL_acts 851 = .ok (.imul, 1) := by decide +kernel
theorem dL_acts_852 : decode cL_acts 852 = .ok (.iconst 2, 1) := by decide +kernel
theorem dL_acts_853 : decode cL_acts 853 = .ok (.iadd, 1) := by decide +kernel
theorem dL_acts_854 : decode cL_acts 854 = .ok (.iload 5, 2) := by decide +kernel
theorem dL_acts_856 : decode cL_acts 856 = .ok (.sipush 1440, 3) := by decide +kernel
theorem dL_acts_859 : decode cL_acts 859 = .ok (.idiv, 1) := by decide +kernel
theorem dL_acts_860 : decode cL_acts 860 = .ok (.bipush 120, 2) := by decide +kernel
theorem dL_acts_862 : decode cL_acts 862 = .ok (.irem, 1) := by decide +kernel
theorem dL_acts_863 : decode cL_acts 863 = .ok (.iastore, 1) := by decide +kernel
theorem dL_acts_864 : decode cL_acts 864 = .ok (.aload_n 0, 1) := by decide +kernel
theorem dL_acts_865 : decode cL_acts 865 = .ok (.iload 6, 2) := by decide +kernel
theorem dL_acts_867 : decode cL_acts 867 = .ok (.aload_n 3, 1) := by decide +kernel
theorem dL_acts_868 : decode cL_acts 868 = .ok (.iconst 5, 1) := by decide +kernel
theorem dL_acts_869 : decode cL_acts 869 = .ok (.iload 6, 2) := by decide +kernel
theorem dL_acts_871 : decode cL_acts 871 = .ok (.imul, 1) := by decide +kernel
theorem dL_acts_872 : decode cL_acts 872 = .ok (.iconst 1, 1) := by decide +kernel
theorem dL_acts_873 : decode cL_acts 873 = .ok (.iadd, 1) := by decide +kernel
theorem dL_acts_874 : decode cL_acts 874 = .ok (.iaload, 1) := by decide +kernel
theorem dL_acts_875 : decode cL_acts 875 = .ok (.aload_n 3, 1) := by decide +kernel
theorem dL_acts_876 : decode cL_acts 876 = .ok (.iconst 5, 1) := by decide +kernel
theorem dL_acts_877 : decode cL_acts 877 = .ok (.iload 6, 2) := by decide +kernel
theorem dL_acts_879 : decode cL_acts 879 = .ok (.imul, 1) := by decide +kernel
theorem dL_acts_880 : decode cL_acts 880 = .ok (.iconst 2, 1) := by decide +kernel
theorem dL_acts_881 : decode cL_acts 881 = .ok (.iadd, 1) := by decide +kernel
theorem dL_acts_882 : decode cL_acts 882 = .ok (.iaload, 1) := by decide +kernel
theorem dL_acts_883 : decode cL_acts 883 = .ok (.invokestatic 98, 3) := by decide +kernel
theorem dL_acts_886 : decode cL_acts 886 = .ok (.iload 17, 2) := by decide +kernel
theorem dL_acts_888 : decode cL_acts 888 = .ok (.if_icmp .ne 7, 3) := by decide +kernel
theorem dL_acts_891 : decode cL_acts 891 = .ok (.iconst 1, 1) := by decide +kernel
theorem dL_acts_892 : decode cL_acts 892 = .ok (.goto 4, 3) := by decide +kernel
theorem dL_acts_895 : decode cL_acts 895 = .ok (.iconst 0, 1) := by decide +kernel
theorem dL_acts_896 : decode cL_acts 896 = .ok (.ireturn, 1) := by decide +kernel
theorem dL_acts_897 : decode cL_acts 897 = .ok (.aload_n 1, 1) := by decide +kernel
theorem dL_acts_898 : decode cL_acts 898 = .ok (.bipush 9, 2) := by decide +kernel
theorem dL_acts_900 : decode cL_acts 900 = .ok (.iaload, 1) := by decide +kernel
theorem dL_acts_901 : decode cL_acts 901 = .ok (.bipush 12, 2) := by decide +kernel
theorem dL_acts_903 : decode cL_acts 903 = .ok (.if_icmp .ne 26, 3) := by decide +kernel
theorem dL_acts_906 : decode cL_acts 906 = .ok (.aload_n 0, 1) := by decide +kernel
theorem dL_acts_907 : decode cL_acts 907 = .ok (.iload 7, 2) := by decide +kernel
theorem dL_acts_909 : decode cL_acts 909 = .ok (.sipush 200, 3) := by decide +kernel
theorem dL_acts_912 : decode cL_acts 912 = .ok (.iconst 0, 1) := by decide +kernel
theorem dL_acts_913 : decode cL_acts 913 = .ok (.iconst 0, 1) := by decide +kernel
theorem dL_acts_914 : decode cL_acts 914 = .ok (.iconst 0, 1) := by decide +kernel
theorem dL_acts_915 : decode cL_acts 915 = .ok (.invokestatic 101, 3) := by decide +kernel
theorem dL_acts_918 : decode cL_acts 918 = .ok (.ldc 104, 2) := by decide +kernel
theorem dL_acts_920 : decode cL_acts 920 = .ok (.if_icmp .ne 7, 3) := by decide +kernel
theorem dL_acts_923 : decode cL_acts 923 = .ok (.iconst 1, 1) := by decide +kernel
theorem dL_acts_924 : decode cL_acts 924 = .ok (.goto 4, 3) := by decide +kernel
theorem dL_acts_927 : decode cL_acts 927 = .ok (.iconst 0, 1) := by decide +kernel
theorem dL_acts_928 : decode cL_acts 928 = .ok (.ireturn, 1) := by decide +kernel
theorem dL_acts_929 : decode cL_acts 929 = .ok (.iconst 5, 1) := by decide +kernel
theorem dL_acts_930 : decode cL_acts 930 = .ok (.aload_n 1, 1) := by decide +kernel
theorem dL_acts_931 : decode cL_acts 931 = .ok (.bipush 9, 2) := by decide +kernel
theorem dL_acts_933 : decode cL_acts 933 = .ok (.iaload, 1) := by decide +kernel
theorem dL_acts_934 : decode cL_acts 934 = .ok (.imul, 1) := by decide +kernel
theorem dL_acts_935 : decode cL_acts 935 = .ok (.istore 18, 2) := by decide +kernel
theorem dL_acts_937 : decode cL_acts 937 = .ok (.aload_n 3, 1) := by decide +kernel
theorem dL_acts_938 : decode cL_acts 938 = .ok (.iload 18, 2) := by decide +kernel
theorem dL_acts_940 : decode cL_acts 940 = .ok (.iload 7, 2) := by decide +kernel
theorem dL_acts_942 : decode cL_acts 942 = .ok (.iastore, 1) := by decide +kernel
theorem dL_acts_943 : decode cL_acts 943 = .ok (.aload_n 3, 1) := by decide +kernel
theorem dL_acts_944 : decode cL_acts 944 = .ok (.iload 18, 2) := by decide +kernel
theorem dL_acts_946 : decode cL_acts 946 = .ok (.iconst 1, 1) := by decide +kernel
theorem dL_acts_947 : decode cL_acts 947 = .ok (.iadd, 1) := by decide +kernel
theorem dL_acts_948 : decode cL_acts 948 = .ok (.iload 5, 2) := by decide +kernel
theorem dL_acts_950 : decode cL_acts 950 = .ok (.iconst 4, 1) := by decide +kernel
theorem dL_acts_951 : decode cL_acts 951 = .ok (.idiv, 1) := by decide +kernel
theorem dL_acts_952 : decode cL_acts 952 = .ok (.iload 5, 2) := by decide +kernel
theorem dL_acts_954 : decode cL_acts 954 = .ok (.iconst 2, 1) := by decide +kernel
theorem dL_acts_955 : decode cL_acts 955 = .ok (.irem, 1) := by decide +kernel
theorem dL_acts_956 : decode cL_acts 956 = .ok (.ifCond .ne 8, 3) := by decide +kernel
theorem dL_acts_959 : decode cL_acts 959 = .ok (.bipush 120, 2) := by decide +kernel
theorem dL_acts_961 : decode cL_acts 961 = .ok (.goto 5, 3) := by decide +kernel
theorem dL_acts_964 : decode cL_acts 964 = .ok (.bipush 40, 2) := by decide +kernel
theorem dL_acts_966 : decode cL_acts 966 = .ok (.irem, 1) := by decide +kernel
theorem dL_acts_967 : decode cL_acts 967 = .ok (.iastore, 1) := by decide +kernel
theorem dL_acts_968 : decode cL_acts 968 = .ok (.aload_n 3, 1) := by decide +kernel
theorem dL_acts_969 : decode cL_acts 969 = .ok (.iload 18, 2) := by decide +kernel
theorem dL_acts_971 : decode cL_acts 971 = .ok (.iconst 2, 1) := by decide +kernel
theorem dL_acts_972 : decode cL_acts 972 = .ok (.iadd, 1) := by decide +kernel
theorem dL_acts_973 : decode cL_acts 973 = .ok (.iload 5, 2) := by decide +kernel
theorem dL_acts_975 : decode cL_acts 975 = .ok (.sipush 480, 3) := by decide +kernel
theorem dL_acts_978 : decode cL_acts 978 = .ok (.idiv, 1) := by decide +kernel
theorem dL_acts_979 : decode cL_acts 979 = .ok (.iload 5, 2) := by decide +kernel
theorem dL_acts_981 : decode cL_acts 981 = .ok (.iconst 2, 1) := by decide +kernel
theorem dL_acts_982 : decode cL_acts 982 = .ok (.irem, 1) := by decide +kernel
theorem dL_acts_983 : decode cL_acts 983 = .ok (.ifCond .ne 8, 3) := by decide +kernel
theorem dL_acts_986 : decode cL_acts 986 = .ok (.bipush 120, 2) := by decide +kernel
theorem dL_acts_988 : decode cL_acts 988 = .ok (.goto 5, 3) := by decide +kernel
theorem dL_acts_991 : decode cL_acts 991 = .ok (.bipush 40, 2) := by decide +kernel
theorem dL_acts_993 : decode cL_acts 993 = .ok (.irem, 1) := by decide +kernel
theorem dL_acts_994 : decode cL_acts 994 = .ok (.iastore, 1) := by decide +kernel
theorem dL_acts_995 : decode cL_acts 995 = .ok (.aload_n 3, 1) := by decide +kernel
theorem dL_acts_996 : decode cL_acts 996 = .ok (.iload 18, 2) := by decide +kernel
theorem dL_acts_998 : decode cL_acts 998 = .ok (.iconst 3, 1) := by decide +kernel
theorem dL_acts_999 : decode cL_acts 999 = .ok (.iadd, 1) := by decide +kernel
theorem dL_acts_1000 : decode cL_acts 1000 = .ok (.iload 5, 2) := by decide +kernel
theorem dL_acts_1002 : decode cL_acts 1002 = .ok (.bipush 9, 2) := by decide +kernel
theorem dL_acts_1004 : decode cL_acts 1004 = .ok (.idiv, 1) := by decide +kernel
theorem dL_acts_1005 : decode cL_acts 1005 = .ok (.bipush 100, 2) := by decide +kernel
theorem dL_acts_1007 : decode cL_acts 1007 = .ok (.irem, 1) := by decide +kernel
theorem dL_acts_1008 : decode cL_acts 1008 = .ok (.iastore, 1) := by decide +kernel
theorem dL_acts_1009 : decode cL_acts 1009 = .ok (.aload_n 3, 1) := by decide +kernel
theorem dL_acts_1010 : decode cL_acts 1010 = .ok (.iload 18, 2) := by decide +kernel
theorem dL_acts_1012 : decode cL_acts 1012 = .ok (.iconst 4, 1) := by decide +kernel
theorem dL_acts_1013 : decode cL_acts 1013 = .ok (.iadd, 1) := by decide +kernel
theorem dL_acts_1014 : decode cL_acts 1014 = .ok (.iload 5, 2) := by decide +kernel
theorem dL_acts_1016 : decode cL_acts 1016 = .ok (.bipush 7, 2) := by decide +kernel
theorem dL_acts_1018 : decode cL_acts 1018 = .ok (.irem, 1) := by decide +kernel
theorem dL_acts_1019 : decode cL_acts 1019 = .ok (.ifCond .ne 14, 3) := by decide +kernel
theorem dL_acts_1022 : decode cL_acts 1022 = .ok (.iload 5, 2) := by decide +kernel
theorem dL_acts_1024 : decode cL_acts 1024 = .ok (.bipush 7, 2) := by decide +kernel
theorem dL_acts_1026 : decode cL_acts 1026 = .ok (.idiv, 1) := by decide +kernel
theorem dL_acts_1027 : decode cL_acts 1027 = .ok (.bipush 6, 2) := by decide +kernel
theorem dL_acts_1029 : decode cL_acts 1029 = .ok (.irem, 1) := by decide +kernel
theorem dL_acts_1030 : decode cL_acts 1030 = .ok (.goto 4, 3) := by decide +kernel
theorem dL_acts_1033 : decode cL_acts 1033 = .ok (.iconst 0, 1) := by decide +kernel
theorem dL_acts_1034 : decode cL_acts 1034 = .ok (.iastore, 1) := by decide +kernel
theorem dL_acts_1035 : decode cL_acts 1035 = .ok (.aload_n 1, 1) := by decide +kernel
theorem dL_acts_1036 : decode cL_acts 1036 = .ok (.bipush 9, 2) := by decide +kernel
theorem dL_acts_1038 : decode cL_acts 1038 = .ok (.dup2, 1) := by decide +kernel
theorem dL_acts_1039 : decode cL_acts 1039 = .ok (.iaload, 1) := by decide +kernel
theorem dL_acts_1040 : decode cL_acts 1040 = .ok (.iconst 1, 1) := by decide +kernel
theorem dL_acts_1041 : decode cL_acts 1041 = .ok (.iadd, 1) := by decide +kernel
theorem dL_acts_1042 : decode cL_acts 1042 = .ok (.iastore, 1) := by decide +kernel
theorem dL_acts_1043 : decode cL_acts 1043 = .ok (.aload_n 0, 1) := by decide +kernel
theorem dL_acts_1044 : decode cL_acts 1044 = .ok (.iload 7, 2) := by decide +kernel
theorem dL_acts_1046 : decode cL_acts 1046 = .ok (.aload_n 3, 1) := by decide +kernel
theorem dL_acts_1047 : decode cL_acts 1047 = .ok (.iload 18, 2) := by decide +kernel
theorem dL_acts_1049 : decode cL_acts 1049 = .ok (.iconst 1, 1) := by decide +kernel
theorem dL_acts_1050 : decode cL_acts 1050 = .ok (.iadd, 1) := by decide +kernel
theorem dL_acts_1051 : decode cL_acts 1051 = .ok (.iaload, 1) := by decide +kernel
theorem dL_acts_1052 : decode cL_acts 1052 = .ok (.aload_n 3, 1) := by decide +kernel
theorem dL_acts_1053 : decode cL_acts 1053 = .ok (.iload 18, 2) := by decide +kernel
theorem dL_acts_1055 : decode cL_acts 1055 = .ok (.iconst 2, 1) := by decide +kernel
theorem dL_acts_1056 : decode cL_acts 1056 = .ok (.iadd, 1) := by decide +kernel
theorem dL_acts_1057 : decode cL_acts 1057 = .ok (.iaload, 1) := by decide +kernel
theorem dL_acts_1058 : decode cL_acts 1058 = .ok (.aload_n 3, 1) := by decide +kernel
theorem dL_acts_1059 : decode cL_acts 1059 = .ok (.iload 18, 2) := by decide +kernel
theorem dL_acts_1061 : decode cL_acts 1061 = .ok (.iconst 3, 1) := by decide +kernel
theorem dL_acts_1062 : decode cL_acts 1062 = .ok (.iadd, 1) := by decide +kernel
theorem dL_acts_1063 : decode cL_acts 1063 = .ok (.iaload, 1) := by decide +kernel
theorem dL_acts_1064 : decode cL_acts 1064 = .ok (.aload_n 3, 1) := by decide +kernel
theorem dL_acts_1065 : decode cL_acts 1065 = .ok (.iload 18, 2) := by decide +kernel
theorem dL_acts_1067 : decode cL_acts 1067 = .ok (.iconst 4, 1) := by decide +kernel
theorem dL_acts_1068 : decode cL_acts 1068 = .ok (.iadd, 1) := by decide +kernel
theorem dL_acts_1069 : decode cL_acts 1069 = .ok (.iaload, 1) := by decide +kernel
theorem dL_acts_1070 : decode cL_acts 1070 = .ok (.invokestatic 101, 3) := by decide +kernel
theorem dL_acts_1073 : decode cL_acts 1073 = .ok (.aload_n 1, 1) := by decide +kernel
theorem dL_acts_1074 : decode cL_acts 1074 = .ok (.bipush 9, 2) := by decide +kernel
theorem dL_acts_1076 : decode cL_acts 1076 = .ok (.iaload, 1) := by decide +kernel
theorem dL_acts_1077 : decode cL_acts 1077 = .ok (.iconst 1, 1) := by decide +kernel
theorem dL_acts_1078 : decode cL_acts 1078 = .ok (.isub, 1) := by decide +kernel
theorem dL_acts_1079 : decode cL_acts 1079 = .ok (.if_icmp .ne 7, 3) := by decide +kernel
theorem dL_acts_1082 : decode cL_acts 1082 = .ok (.iconst 1, 1) := by decide +kernel
theorem dL_acts_1083 : decode cL_acts 1083 = .ok (.goto 4, 3) := by decide +kernel
theorem dL_acts_1086 : decode cL_acts 1086 = .ok (.iconst 0, 1) := by decide +kernel
theorem dL_acts_1087 : decode cL_acts 1087 = .ok (.ireturn, 1) := by decide +kernel
theorem dL_isSo_0 : decode cL_isSo 0 = .ok (.aload_n 1, 1) := by decide +kernel
theorem dL_isSo_1 : decode cL_isSo 1 = .ok (.aload_n 2, 1) := by decide +kernel
theorem dL_isSo_2 : decode cL_isSo 2 = .ok (.aload_n 3, 1) := by decide +kernel
theorem dL_isSo_3 : decode cL_isSo 3 = .ok (.aload 4, 2) := by decide +kernel
theorem dL_isSo_5 : decode cL_isSo 5 = .ok (.invokestatic 155, 3) := by decide +kernel
theorem dL_isSo_8 : decode cL_isSo 8 = .ok (.aload_n 0, 1) := by decide +kernel
theorem dL_isSo_9 : decode cL_isSo 9 = .ok (.invokevirtual 158, 3) := by decide +kernel
theorem dL_isSo_12 : decode cL_isSo 12 = .ok (.aload 4, 2) := by decide +kernel
theorem dL_isSo_14 : decode cL_isSo 14 = .ok (.iconst 0, 1) := by decide +kernel
theorem dL_isSo_15 : decode cL_isSo 15 = .ok (.iaload, 1) := by decide +kernel
theorem dL_isSo_16 : decode cL_isSo 16 = .ok (.if_icmp .ne 99, 3) := by decide +kernel
theorem dL_isSo_19 : decode cL_isSo 19 = .ok (.aload_n 0, 1) := by decide +kernel
theorem dL_isSo_20 : decode cL_isSo 20 = .ok (.invokevirtual 162, 3) := by decide +kernel
theorem dL_isSo_23 : decode cL_isSo 23 = .ok (.aload 4, 2) := by decide +kernel
theorem dL_isSo_25 : decode cL_isSo 25 = .ok (.bipush 9, 2) := by decide +kernel
theorem dL_isSo_27 : decode cL_isSo 27 = .ok (.iaload, 1) := by decide +kernel
theorem dL_isSo_28 : decode cL_isSo 28 = .ok (.if_icmp .ne 87, 3) := by decide +kernel
theorem dL_isSo_31 : decode cL_isSo 31 = .ok (.aload_n 0, 1) := by decide +kernel
theorem dL_isSo_32 : decode cL_isSo 32 = .ok (.iconst 0, 1) := by decide +kernel
theorem dL_isSo_33 : decode cL_isSo 33 = .ok (.invokestatic 165, 3) := by decide +kernel
theorem dL_isSo_36 : decode cL_isSo 36 = .ok (.aload 4, 2) := by decide +kernel
theorem dL_isSo_38 : decode cL_isSo 38 = .ok (.iconst 1, 1) := by decide +kernel
theorem dL_isSo_39 : decode cL_isSo 39 = .ok (.iaload, 1) := by decide +kernel
theorem dL_isSo_40 : decode cL_isSo 40 = .ok (.if_icmp .ne 75, 3) := by decide +kernel
theorem dL_isSo_43 : decode cL_isSo 43 = .ok (.aload_n 0, 1) := by decide +kernel
theorem dL_isSo_44 : decode cL_isSo 44 = .ok (.iconst 1, 1) := by decide +kernel
theorem dL_isSo_45 : decode cL_isSo 45 = .ok (.invokestatic 165, 3) := by decide +kernel
theorem dL_isSo_48 : decode cL_isSo 48 = .ok (.aload 4, 2) := by decide +kernel
theorem dL_isSo_50 : decode cL_isSo 50 = .ok (.iconst 2, 1) := by decide +kernel
theorem dL_isSo_51 : decode cL_isSo 51 = .ok (.iaload, 1) := by decide +kernel
theorem dL_isSo_52 : decode cL_isSo 52 = .ok (.if_icmp .ne 63, 3) := by decide +kernel
theorem dL_isSo_55 : decode cL_isSo 55 = .ok (.aload_n 0, 1) := by decide +kernel
theorem dL_isSo_56 : decode cL_isSo 56 = .ok (.iconst 2, 1) := by decide +kernel
theorem dL_isSo_57 : decode cL_isSo 57 = .ok (.invokestatic 165, 3) := by decide +kernel
theorem dL_isSo_60 : decode cL_isSo 60 = .ok (.aload_n 1, 1) := by decide +kernel
theorem dL_isSo_61 : decode cL_isSo 61 = .ok (.aload_n 3, 1) := by decide +kernel
theorem dL_isSo_62 : decode cL_isSo 62 = .ok (.aload 4, 2) := by decide +kernel
theorem dL_isSo_64 : decode cL_isSo 64 = .ok (.invokestatic 53, 3) := by decide +kernel
theorem dL_isSo_67 : decode cL_isSo 67 = .ok (.aload 4, 2) := by decide +kernel
theorem dL_isSo_69 : decode cL_isSo 69 = .ok (.iconst 3, 1) := by decide +kernel
theorem dL_isSo_70 : decode cL_isSo 70 = .ok (.iaload, 1) := by decide +kernel
theorem dL_isSo_71 : decode cL_isSo 71 = .ok (.iand, 1) := by decide +kernel
theorem dL_isSo_72 : decode cL_isSo 72 = .ok (.invokestatic 31, 3) := by decide +kernel
theorem dL_isSo_75 : decode cL_isSo 75 = .ok (.if_icmp .ne 40, 3) := by decide +kernel
theorem dL_isSo_78 : decode cL_isSo 78 = .ok (.aload_n 0, 1) := by decide +kernel
theorem dL_isSo_79 : decode cL_isSo 79 = .ok (.bipush 10, 2) := by decide +kernel
theorem dL_isSo_81 : decode cL_isSo 81 = .ok (.invokestatic 168, 3) := by decide +kernel
theorem dL_isSo_84 : decode cL_isSo 84 = .ok (.aload_n 1, 1) := by decide +kernel
theorem dL_isSo_85 : decode cL_isSo 85 = .ok (.aload_n 3, 1) := by decide +kernel
theorem dL_isSo_86 : decode cL_isSo 86 = .ok (.invokestatic 46, 3) := by decide +kernel
theorem dL_isSo_89 : decode cL_isSo 89 = .ok (.invokestatic 31, 3) := by decide +kernel
theorem dL_isSo_92 : decode cL_isSo 92 = .ok (.if_icmp .ne 23, 3) := by decide +kernel
theorem dL_isSo_95 : decode cL_isSo 95 = .ok (.aload_n 0, 1) := by decide +kernel
theorem dL_isSo_96 : decode cL_isSo 96 = .ok (.bipush 11, 2) := by decide +kernel
theorem dL_isSo_98 : decode cL_isSo 98 = .ok (.invokestatic 168, 3) := by decide +kernel
theorem dL_isSo_101 : decode cL_isSo 101 = .ok (.aload 4, 2) := by decide +kernel
theorem dL_isSo_103 : decode cL_isSo 103 = .ok (.iconst 3, 1) := by decide +kernel
theorem dL_isSo_104 : decode cL_isSo 104 = .ok (.iaload, 1) := by decide +kernel
theorem dL_isSo_105 : decode cL_isSo 105 = .ok (.invokestatic 31, 3) := by decide +kernel
theorem dL_isSo_108 : decode cL_isSo 108 = .ok (.if_icmp .ne 7, 3) := by decide +kernel
theorem dL_isSo_111 : decode cL_isSo 111 = .ok (.iconst 1, 1) := by decide +kernel
theorem dL_isSo_112 : decode cL_isSo 112 = .ok (.goto 4, 3) := by decide +kernel
theorem dL_isSo_115 : decode cL_isSo 115 = .ok (.iconst 0, 1) := by decide +kernel
theorem dL_isSo_116 : decode cL_isSo 116 = .ok (.istore 5, 2) := by decide +kernel
theorem dL_isSo_118 : decode cL_isSo 118 = .ok (.iconst 0, 1) := by decide +kernel
theorem dL_isSo_119 : decode cL_isSo 119 = .ok (.istore 6, 2) := by decide +kernel
theorem dL_isSo_121 : decode cL_isSo 121 = .ok (.iload 6, 2) := by decide +kernel
theorem dL_isSo_123 : decode cL_isSo 123 = .ok (.bipush 10, 2) := by decide +kernel
theorem dL_isSo_125 : decode cL_isSo 125 = .ok (.if_icmp .ge 34, 3) := by decide +kernel
theorem dL_isSo_128 : decode cL_isSo 128 = .ok (.iload 5, 2) := by decide +kernel
theorem dL_isSo_130 : decode cL_isSo 130 = .ok (.ifCond .eq 20, 3) := by decide +kernel
theorem dL_isSo_133 : decode cL_isSo 133 = .ok (.aload_n 0, 1) := by decide +kernel
theorem dL_isSo_134 : decode cL_isSo 134 = .ok (.iload 6, 2) := by decide +kernel
theorem dL_isSo_136 : decode cL_isSo 136 = .ok (.invokestatic 168, 3) := by decide +kernel
theorem dL_isSo_139 : decode cL_isSo 139 = .ok (.aload_n 1, 1) := by decide +kernel
theorem dL_isSo_140 : decode cL_isSo 140 = .ok (.iload 6, 2) := by decide +kernel
theorem dL_isSo_142 : decode cL_isSo 142 = .ok (.iaload, 1) := by decide +kernel
theorem dL_isSo_143 : decode cL_isSo 143 = .ok (.if_icmp .ne 7, 3) := by decide +kernel
theorem dL_isSo_146 : decode cL_isSo 146 = .ok (.iconst 1, 1) := by decide +kernel
theorem dL_isSo_147 : decode cL_isSo 147 = .ok (.goto 4, 3) := by decide +kernel
theorem dL_isSo_150 : decode cL_isSo 150 = .ok (.iconst 0, 1) := by decide +kernel
theorem dL_isSo_151 : decode cL_isSo 151 = .ok (.istore 5, 2) := by decide +kernel
theorem dL_isSo_153 : decode cL_isSo 153 = .ok (.iinc 6 1, 3) := by decide +kernel
theorem dL_isSo_156 : decode cL_isSo 156 = .ok (.goto (-35), 3) := by decide +kernel
theorem dL_isSo_159 : decode cL_isSo 159 = .ok (.iconst 0, 1) := by decide +kernel
theorem dL_isSo_160 : decode cL_isSo 160 = .ok (.istore 6, 2) := by decide +kernel
theorem dL_isSo_162 : decode cL_isSo 162 = .ok (.iload 6, 2) := by decide +kernel
theorem dL_isSo_164 : decode cL_isSo 164 = .ok (.iconst 5, 1) := by decide +kernel
theorem dL_isSo_165 : decode cL_isSo 165 = .ok (.if_icmp .ge 48, 3) := by decide +kernel
theorem dL_isSo_168 : decode cL_isSo 168 = .ok (.iload 5, 2) := by decide +kernel
theorem dL_isSo_170 : decode cL_isSo 170 = .ok (.ifCond .eq 34, 3) := by decide +kernel
theorem dL_isSo_173 : decode cL_isSo 173 = .ok (.aload_n 0, 1) := by decide +kernel
theorem dL_isSo_174 : decode cL_isSo 174 = .ok (.iload 6, 2) := by decide +kernel
theorem dL_isSo_176 : decode cL_isSo 176 = .ok (.invokestatic 171, 3) := by decide +kernel
theorem dL_isSo_179 : decode cL_isSo 179 = .ok (.aload 4, 2) := by decide +kernel
theorem dL_isSo_181 : decode cL_isSo 181 = .ok (.iconst 4, 1) := by decide +kernel
theorem dL_isSo_182 : decode cL_isSo 182 = .ok (.iaload, 1) := by decide +kernel
theorem dL_isSo_183 : decode cL_isSo 183 = .ok (.ifCond .ge 7, 3) := by decide +kernel
theorem dL_isSo_186 : decode cL_isSo 186 = .ok (.iconst (-1), 1) := by decide +kernel
theorem dL_isSo_187 : decode cL_isSo 187 = .ok (.goto 10, 3) := by decide +kernel
theorem dL_isSo_190 : decode cL_isSo 190 = .ok (.aload 4, 2) := by decide +kernel
theorem dL_isSo_192 : decode cL_isSo 192 = .ok (.iconst 4, 1) := by decide +kernel
theorem dL_isSo_193 : decode cL_isSo 193 = .ok (.iload 6, 2) := by decide +kernel
theorem dL_isSo_195 : decode cL_isSo 195 = .ok (.iadd, 1) := by decide +kernel
theorem dL_isSo_196 : decode cL_isSo 196 = .ok (.iaload, 1) := by decide +kernel
theorem dL_isSo_197 : decode cL_isSo 197 = .ok (.if_icmp .ne 7, 3) := by decide +kernel
theorem dL_isSo_200 : decode cL_isSo 200 = .ok (.iconst 1, 1) := by decide +kernel
theorem dL_isSo_201 : decode cL_isSo 201 = .ok (.goto 4, 3) := by decide +kernel
theorem dL_isSo_204 : decode cL_isSo 204 = .ok (.iconst 0, 1) := by decide +kernel
theorem dL_isSo_205 : decode cL_isSo 205 = .ok (.istore 5, 2) := by decide +kernel
theorem dL_isSo_207 : decode cL_isSo 207 = .ok (.iinc 6 1, 3) := by decide +kernel
theorem dL_isSo_210 : decode cL_isSo 210 = .ok (.goto (-48), 3) := by decide +kernel
theorem dL_isSo_213 : decode cL_isSo 213 = .ok (.iload 5, 2) := by decide +kernel
theorem dL_isSo_215 : decode cL_isSo 215 = .ok (.ifCond .eq 74, 3) := by decide +kernel
theorem dL_isSo_218 : decode cL_isSo 218 = .ok (.aload_n 0, 1) := by decide +kernel
theorem dL_isSo_219 : decode cL_isSo 219 = .ok (.iconst 5, 1) := by decide +kernel
theorem dL_isSo_220 : decode cL_isSo 220 = .ok (.invokestatic 171, 3) := by decide +kernel
theorem dL_isSo_223 : decode cL_isSo 223 = .ok (.aload 4, 2) := by decide +kernel
theorem dL_isSo_225 : decode cL_isSo 225 = .ok (.iconst 4, 1) := by decide +kernel
theorem dL_isSo_226 : decode cL_isSo 226 = .ok (.iaload, 1) := by decide +kernel
theorem dL_isSo_227 : decode cL_isSo 227 = .ok (.ifCond .ge 7, 3) := by decide +kernel
theorem dL_isSo_230 : decode cL_isSo 230 = .ok (.iconst (-1), 1) := by decide +kernel
theorem dL_isSo_231 : decode cL_isSo 231 = .ok (.goto 13, 3) := by decide +kernel
theorem dL_isSo_234 : decode cL_isSo 234 = .ok (.aload_n 1, 1) := by decide +kernel
theorem dL_isSo_235 : decode cL_isSo 235 = .ok (.aload_n 3, 1) := by decide +kernel
theorem dL_isSo_236 : decode cL_isSo 236 = .ok (.aload 4, 2) := by decide +kernel
theorem dL_isSo_238 : decode cL_isSo 238 = .ok (.invokestatic 53, 3) := by decide +kernel
theorem dL_isSo_241 : decode cL_isSo 241 = .ok (.invokestatic 31, 3) := by decide +kernel
theorem dL_isSo_244 : decode cL_isSo 244 = .ok (.if_icmp .ne 45, 3) := by decide +kernel
theorem dL_isSo_247 : decode cL_isSo 247 = .ok (.aload_n 0, 1) := by decide +kernel
theorem dL_isSo_248 : decode cL_isSo 248 = .ok (.invokevirtual 174, 3) := by decide +kernel
theorem dL_isSo_251 : decode cL_isSo 251 = .ok (.aload_n 1, 1) := by decide +kernel
theorem dL_isSo_252 : decode cL_isSo 252 = .ok (.aload_n 3, 1) := by decide +kernel
theorem dL_isSo_253 : decode cL_isSo 253 = .ok (.invokestatic 46, 3) := by decide +kernel
theorem dL_isSo_256 : decode cL_isSo 256 = .ok (.ifCond .ne 7, 3) := by decide +kernel
theorem dL_isSo_259 : decode cL_isSo 259 = .ok (.dconst 1, 1) := by decide +kernel
theorem dL_isSo_260 : decode cL_isSo 260 = .ok (.goto 21, 3) := by decide +kernel
theorem dL_isSo_263 : decode cL_isSo 263 = .ok (.aload 4, 2) := by decide +kernel
theorem dL_isSo_265 : decode cL_isSo 265 = .ok (.iconst 3, 1) := by decide +kernel
theorem dL_isSo_266 : decode cL_isSo 266 = .ok (.iaload, 1) := by decide +kernel
theorem dL_isSo_267 : decode cL_isSo 267 = .ok (.invokestatic 31, 3) := by decide +kernel
theorem dL_isSo_270 : decode cL_isSo 270 = .ok (.i2d, 1) := by decide +kernel
theorem dL_isSo_271 : decode cL_isSo 271 = .ok (.aload_n 1, 1) := by decide +kernel
theorem dL_isSo_272 : decode cL_isSo 272 = .ok (.aload_n 3, 1) := by decide +kernel
theorem dL_isSo_273 : decode cL_isSo 273 = .ok (.invokestatic 46, 3) := by decide +kernel
theorem dL_isSo_276 : decode cL_isSo 276 = .ok (.invokestatic 31, 3) := by decide +kernel
theorem dL_isSo_279 : decode cL_isSo 279 = .ok (.i2d, 1) := by decide +kernel
theorem dL_isSo_280 : decode cL_isSo 280 = .ok (.ddiv, 1) := by decide +kernel
theorem dL_isSo_281 : decode cL_isSo 281 = .ok (.dcmp .l, 1) := by decide +kernel
theorem dL_isSo_282 : decode cL_isSo 282 = .ok (.ifCond .ne 7, 3) := by decide +kernel
theorem dL_isSo_285 : decode cL_isSo 285 = .ok (.iconst 1, 1) := by decide +kernel
theorem dL_isSo_286 : decode cL_isSo 286 = .ok (.goto 4, 3) := by decide +kernel
theorem dL_isSo_289 : decode cL_isSo 289 = .ok (.iconst 0, 1) := by decide +kernel
theorem dL_isSo_290 : decode cL_isSo 290 = .ok (.istore 5, 2) := by decide +kernel
theorem dL_isSo_292 : decode cL_isSo 292 = .ok (.iconst 0, 1) := by decide +kernel
theorem dL_isSo_293 : decode cL_isSo 293 = .ok (.istore 6, 2) := by decide +kernel
theorem dL_isSo_295 : decode cL_isSo 295 = .ok (.iload 6, 2) := by decide +kernel
theorem dL_isSo_297 : decode cL_isSo 297 = .ok (.aload 4, 2) := by decide +kernel
theorem dL_isSo_299 : decode cL_isSo 299 = .ok (.iconst 0, 1) := by decide +kernel
theorem dL_isSo_300 : decode cL_isSo 300 = .ok (.iaload, 1) := by decide +kernel
theorem dL_isSo_301 : decode cL_isSo 301 = .ok (.if_icmp .ge 224, 3) := by decide +kernel
theorem dL_isSo_304 : decode cL_isSo 304 = .ok (.iload 5, 2) := by decide +kernel
theorem dL_isSo_306 : decode cL_isSo 306 = .ok (.ifCond .eq 219, 3) := by decide +kernel
theorem dL_isSo_309 : decode cL_isSo 309 = .ok (.aload 4, 2) := by decide +kernel
theorem dL_isSo_311 : decode cL_isSo 311 = .ok (.bipush 10, 2) := by decide +kernel
theorem dL_isSo_313 : decode cL_isSo 313 = .ok (.iload 6, 2) := by decide +kernel
theorem dL_isSo_315 : decode cL_isSo 315 = .ok (.iadd, 1) := by decide +kernel
theorem dL_isSo_316 : decode cL_isSo 316 = .ok (.iaload, 1) := by decide +kernel
theorem dL_isSo_317 : decode cL_isSo 317 = .ok (.istore 7, 2) := by decide +kernel
theorem dL_isSo_319 : decode cL_isSo 319 = .ok (.iconst 0, 1) := by decide +kernel
theorem dL_isSo_320 : decode cL_isSo 320 = .ok (.istore 8, 2) := by decide +kernel
theorem dL_isSo_322 : decode cL_isSo 322 = .ok (.iconst 0, 1) := by decide +kernel
theorem dL_isSo_323 : decode cL_isSo 323 = .ok (.istore 9, 2) := by decide +kernel
theorem dL_isSo_325 : decode cL_isSo 325 = .ok (.iload 9, 2) := by decide +kernel
theorem dL_isSo_327 : decode cL_isSo 327 = .ok (.aload_n 1, 1) := by decide +kernel
theorem dL_isSo_328 : decode cL_isSo 328 = .ok (.bipush 9, 2) := by decide +kernel
theorem dL_isSo_330 : decode cL_isSo 330 = .ok (.iaload, 1) := by decide +kernel
theorem dL_isSo_331 : decode cL_isSo 331 = .ok (.if_icmp .ge 33, 3) := by decide +kernel
theorem dL_isSo_334 : decode cL_isSo 334 = .ok (.iload 8, 2) := by decide +kernel
theorem dL_isSo_336 : decode cL_isSo 336 = .ok (.aload_n 2, 1) := by decide +kernel
theorem dL_isSo_337 : decode cL_isSo 337 = .ok (.aload_n 3, 1) := by decide +kernel
theorem dL_isSo_338 : decode cL_isSo 338 = .ok (.aload 4, 2) := by decide +kernel
theorem dL_isSo_340 : decode cL_isSo 340 = .ok (.iload 6, 2) := by decide +kernel
theorem dL_isSo_342 : decode cL_isSo 342 = .ok (.iload 9, 2) := by decide +kernel
theorem dL_isSo_344 : decode cL_isSo 344 = .ok (.invokestatic 178, 3) := by decide +kernel
theorem dL_isSo_347 : decode cL_isSo 347 = .ok (.ifCond .eq 7, 3) := by decide +kernel
theorem dL_isSo_350 : decode cL_isSo 350 = .ok (.iconst 1, 1) := by decide +kernel
theorem dL_isSo_351 : decode cL_isSo 351 = .ok (.goto 4, 3) := by decide +kernel
theorem dL_isSo_354 : decode cL_isSo 354 = .ok (.iconst 0, 1) := by decide +kernel
theorem dL_isSo_355 : decode cL_isSo 355 = .ok (.iadd, 1) := by decide +kernel
theorem dL_isSo_356 : decode cL_isSo 356 = .ok (.istore 8, 2) := by decide +kernel
theorem dL_isSo_358 : decode cL_isSo 358 = .ok (.iinc 9 1, 3) := by decide +kernel
theorem dL_isSo_361 : decode cL_isSo 361 = .ok (.goto (-36), 3) := by decide +kernel
theorem dL_isSo_364 : decode cL_isSo 364 = .ok (.aload_n 1, 1) := by decide +kernel
theorem dL_isSo_365 : decode cL_isSo 365 = .ok (.aload 4, 2) := by decide +kernel
theorem dL_isSo_367 : decode cL_isSo 367 = .ok (.iload 6, 2) := by decide +kernel
theorem dL_isSo_369 : decode cL_isSo 369 = .ok (.invokestatic 50, 3) := by decide +kernel
theorem dL_isSo_372 : decode cL_isSo 372 = .ok (.istore 9, 2) := by decide +kernel
theorem dL_isSo_374 : decode cL_isSo 374 = .ok (.aload_n 0, 1) := by decide +kernel
theorem dL_isSo_375 : decode cL_isSo 375 = .ok (.iload 6, 2) := by decide +kernel
theorem dL_isSo_377 : decode cL_isSo 377 = .ok (.iconst 0, 1) := by decide +kernel
theorem dL_isSo_378 : decode cL_isSo 378 = .ok (.invokestatic 182, 3) := by decide +kernel
theorem dL_isSo_381 : decode cL_isSo 381 = .ok (.iload 7, 2) := by decide +kernel
theorem dL_isSo_383 : decode cL_isSo 383 = .ok (.sipush 20000, 3) := by decide +kernel
theorem dL_isSo_386 : decode cL_isSo 386 = .ok (.idiv, 1) := by decide +kernel
theorem dL_isSo_387 : decode cL_isSo 387 = .ok (.if_icmp .ne 129, 3) := by decide +kernel
theorem dL_isSo_390 : decode cL_isSo 390 = .ok (.aload_n 0, 1) := by decide +kernel
theorem dL_isSo_391 : decode cL_isSo 391 = .ok (.iload 6, 2) := by decide +kernel
theorem dL_isSo_393 : decode cL_isSo 393 = .ok (.iconst 1, 1) := by decide +kernel
theorem dL_isSo_394 : decode cL_isSo 394 = .ok (.invokestatic 182, 3) := by decide +kernel
theorem dL_isSo_397 : decode cL_isSo 397 = .ok (.iload 7, 2) := by decide +kernel
theorem dL_isSo_399 : decode cL_isSo 399 = .ok (.sipush 1000, 3) := by decide +kernel
theorem dL_isSo_402 : decode cL_isSo 402 = .ok (.idiv, 1) := by decide +kernel
theorem dL_isSo_403 : decode cL_isSo 403 = .ok (.bipush 20, 2) := by decide +kernel
theorem dL_isSo_405 : decode cL_isSo 405 = .ok (.irem, 1) := by decide +kernel
theorem dL_isSo_406 : decode cL_isSo 406 = .ok (.iconst 1, 1) := by decide +kernel
theorem dL_isSo_407 : decode cL_isSo 407 = .ok (.isub, 1) := by decide +kernel
theorem dL_isSo_408 : decode cL_isSo 408 = .ok (.if_icmp .ne 108, 3) := by decide +kernel
theorem dL_isSo_411 : decode cL_isSo 411 = .ok (.aload_n 0, 1) := by decide +kernel
theorem dL_isSo_412 : decode cL_isSo 412 = .ok (.iload 6, 2) := by decide +kernel
theorem dL_isSo_414 : decode cL_isSo 414 = .ok (.iconst 2, 1) := by decide +kernel
theorem dL_isSo_415 : decode cL_isSo 415 = .ok (.invokestatic 182, 3) := by decide +kernel
theorem dL_isSo_418 : decode cL_isSo 418 = .ok (.iload 7, 2) := by decide +kernel
theorem dL_isSo_420 : decode cL_isSo 420 = .ok (.bipush 100, 2) := by decide +kernel
theorem dL_isSo_422 : decode cL_isSo 422 = .ok (.idiv, 1) := by decide +kernel
theorem dL_isSo_423 : decode cL_isSo 423 = .ok (.bipush 10, 2) := by decide +kernel
theorem dL_isSo_425 : decode cL_isSo 425 = .ok (.irem, 1) := by decide +kernel
theorem dL_isSo_426 : decode cL_isSo 426 = .ok (.iconst 1, 1) := by decide +kernel
theorem dL_isSo_427 : decode cL_isSo 427 = .ok (.isub, 1) := by decide +kernel
theorem dL_isSo_428 : decode cL_isSo 428 = .ok (.if_icmp .ne 88, 3) := by decide +kernel
theorem dL_isSo_431 : decode cL_isSo 431 = .ok (.aload_n 0, 1) := by decide +kernel
theorem dL_isSo_432 : decode cL_isSo 432 = .ok (.iload 6, 2) := by decide +kernel
theorem dL_isSo_434 : decode cL_isSo 434 = .ok (.iconst 3, 1) := by decide +kernel
theorem dL_isSo_435 : decode cL_isSo 435 = .ok (.invokestatic 182, 3) := by decide +kernel
theorem dL_isSo_438 : decode cL_isSo 438 = .ok (.iload 7, 2) := by decide +kernel
theorem dL_isSo_440 : decode cL_isSo 440 = .ok (.bipush 10, 2) := by decide +kernel
theorem dL_isSo_442 : decode cL_isSo 442 = .ok (.idiv, 1) := by decide +kernel
theorem dL_isSo_443 : decode cL_isSo 443 = .ok (.bipush 10, 2) := by decide +kernel
theorem dL_isSo_445 : decode cL_isSo 445 = .ok (.irem, 1) := by decide +kernel
theorem dL_isSo_446 : decode cL_isSo 446 = .ok (.iconst 1, 1) := by decide +kernel
theorem dL_isSo_447 : decode cL_isSo 447 = .ok (.isub, 1) := by decide +kernel
theorem dL_isSo_448 : decode cL_isSo 448 = .ok (.if_icmp .ne 68, 3) := by decide +kernel
theorem dL_isSo_451 : decode cL_isSo 451 = .ok (.aload_n 0, 1) := by decide +kernel
theorem dL_isSo_452 : decode cL_isSo 452 = .ok (.iload 6, 2) := by decide +kernel
theorem dL_isSo_454 : decode cL_isSo 454 = .ok (.iconst 4, 1) := by decide +kernel
theorem dL_isSo_455 : decode cL_isSo 455 = .ok (.invokestatic 182, 3) := by decide +kernel
theorem dL_isSo_458 : decode cL_isSo 458 = .ok (.iload 7, 2) := by decide +kernel
theorem dL_isSo_460 : decode cL_isSo 460 = .ok (.bipush 10, 2) := by decide +kernel
theorem dL_isSo_462 : decode cL_isSo 462 = .ok (.irem, 1) := by decide +kernel
theorem dL_isSo_463 : decode cL_isSo 463 = .ok (.iconst 1, 1) := by decide +kernel
theorem dL_isSo_464 : decode cL_isSo 464 = .ok (.isub, 1) := by decide +kernel
theorem dL_isSo_465 : decode cL_isSo 465 = .ok (.if_icmp .ne 51, 3) := by decide +kernel
theorem dL_isSo_468 : decode cL_isSo 468 = .ok (.aload_n 0, 1) := by decide +kernel
theorem dL_isSo_469 : decode cL_isSo 469 = .ok (.iload 6, 2) := by decide +kernel
theorem dL_isSo_471 : decode cL_isSo 471 = .ok (.iconst 5, 1) := by decide +kernel
theorem dL_isSo_472 : decode cL_isSo 472 = .ok (.invokestatic 182, 3) := by decide +kernel
theorem dL_isSo_475 : decode cL_isSo 475 = .ok (.iload 8, 2) := by decide +kernel
theorem dL_isSo_477 : decode cL_isSo 477 = .ok (.if_icmp .ne 39, 3) := by decide +kernel
theorem dL_isSo_480 : decode cL_isSo 480 = .ok (.aload_n 0, 1) := by decide +kernel
theorem dL_isSo_481 : decode cL_isSo 481 = .ok (.iload 6, 2) := by decide +kernel
theorem dL_isSo_483 : decode cL_isSo 483 = .ok (.bipush 6, 2) := by decide +kernel
theorem dL_isSo_485 : decode cL_isSo 485 = .ok (.invokestatic 182, 3) := by decide +kernel
theorem dL_isSo_488 : decode cL_isSo 488 = .ok (.iload 9, 2) := by decide +kernel
theorem dL_isSo_490 : decode cL_isSo 490 = .ok (.bipush 100, 2) := by decide +kernel
theorem dL_isSo_492 : decode cL_isSo 492 = .ok (.irem, 1) := by decide +kernel
theorem dL_isSo_493 : decode cL_isSo 493 = .ok (.if_icmp .ne 23, 3) := by decide +kernel
theorem dL_isSo_496 : decode cL_isSo 496 = .ok (.aload_n 0, 1) := by decide +kernel
theorem dL_isSo_497 : decode cL_isSo 497 = .ok (.iload 6, 2) := by decide +kernel
theorem dL_isSo_499 : decode cL_isSo 499 = .ok (.bipush 7, 2) := by decide +kernel
theorem dL_isSo_501 : decode cL_isSo 501 = .ok (.invokestatic 182, 3) := by decide +kernel
theorem dL_isSo_504 : decode cL_isSo 504 = .ok (.iload 9, 2) := by decide +kernel
theorem dL_isSo_506 : decode cL_isSo 506 = .ok (.bipush 100, 2) := by decide +kernel
theorem dL_isSo_508 : decode cL_isSo 508 = .ok (.idiv, 1) := by decide +kernel
theorem dL_isSo_509 : decode cL_isSo 509 = .ok (.if_icmp .ne 7, 3) := by decide +kernel
theorem dL_isSo_512 : decode cL_isSo 512 = .ok (.iconst 1, 1) := by decide +kernel
theorem dL_isSo_513 : decode cL_isSo 513 = .ok (.goto 4, 3) := by decide +kernel
theorem dL_isSo_516 : decode cL_isSo 516 = .ok (.iconst 0, 1) := by decide +kernel
theorem dL_isSo_517 : decode cL_isSo 517 = .ok (.istore 5, 2) := by decide +kernel
theorem dL_isSo_519 : decode cL_isSo 519 = .ok (.iinc 6 1, 3) := by decide +kernel
theorem dL_isSo_522 : decode cL_isSo 522 = .ok (.goto (-227), 3) := by decide +kernel
theorem dL_isSo_525 : decode cL_isSo 525 = .ok (.iconst 0, 1) := by decide +kernel
theorem dL_isSo_526 : decode cL_isSo 526 = .ok (.istore 6, 2) := by decide +kernel
theorem dL_isSo_528 : decode cL_isSo 528 = .ok (.iload 6, 2) := by decide +kernel
theorem dL_isSo_530 : decode cL_isSo 530 = .ok (.aload_n 1, 1) := by decide +kernel
theorem dL_isSo_531 : decode cL_isSo 531 = .ok (.bipush 9, 2) := by decide +kernel
theorem dL_isSo_533 : decode cL_isSo 533 = .ok (.iaload, 1) := by decide +kernel
theorem dL_isSo_534 : decode cL_isSo 534 = .ok (.if_icmp .ge 188, 3) := by decide +kernel
theorem dL_isSo_537 : decode cL_isSo 537 = .ok (.iload 5, 2) := by decide +kernel
theorem dL_isSo_539 : decode cL_isSo 539 = .ok (.ifCond .eq 183, 3) := by decide +kernel
theorem dL_isSo_542 : decode cL_isSo 542 = .ok (.iconst (-1), 1) := by decide +kernel
theorem dL_isSo_543 : decode cL_isSo 543 = .ok (.istore 7, 2) := by decide +kernel
theorem dL_isSo_545 : decode cL_isSo 545 = .ok (.iconst 0, 1) := by decide +kernel
theorem dL_isSo_546 : decode cL_isSo 546 = .ok (.istore 8, 2) := by decide +kernel
theorem dL_isSo_548 : decode cL_isSo 548 = .ok (.iload 8, 2) := by decide +kernel
theorem dL_isSo_550 : decode cL_isSo 550 = .ok (.aload 4, 2) := by decide +kernel
theorem dL_isSo_552 : decode cL_isSo 552 = .ok (.iconst 0, 1) := by decide +kernel
theorem dL_isSo_553 : decode cL_isSo 553 = .ok (.iaload, 1) := by decide +kernel
theorem dL_isSo_554 : decode cL_isSo 554 = .ok (.if_icmp .ge 32, 3) := by decide +kernel
theorem dL_isSo_557 : decode cL_isSo 557 = .ok (.aload_n 2, 1) := by decide +kernel
theorem dL_isSo_558 : decode cL_isSo 558 = .ok (.aload_n 3, 1) := by decide +kernel
theorem dL_isSo_559 : decode cL_isSo 559 = .ok (.aload 4, 2) := by decide +kernel
theorem dL_isSo_561 : decode cL_isSo 561 = .ok (.iload 8, 2) := by decide +kernel
theorem dL_isSo_563 : decode cL_isSo 563 = .ok (.iload 6, 2) := by decide +kernel
theorem dL_isSo_565 : decode cL_isSo 565 = .ok (.invokestatic 178, 3) := by decide +kernel
theorem dL_isSo_568 : decode cL_isSo 568 = .ok (.ifCond .eq 8, 3) := by decide +kernel
theorem dL_isSo_571 : decode cL_isSo 571 = .ok (.iload 8, 2) := by decide +kernel
theorem dL_isSo_573 : decode cL_isSo 573 = .ok (.goto 5, 3) := by decide +kernel
theorem dL_isSo_576 : decode cL_isSo 576 = .ok (.iload 7, 2) := by decide +kernel
theorem dL_isSo_578 : decode cL_isSo 578 = .ok (.istore 7, 2) := by decide +kernel
theorem dL_isSo_580 : decode cL_isSo 580 = .ok (.iinc 8 1, 3) := by decide +kernel
theorem dL_isSo_583 : decode cL_isSo 583 = .ok (.goto (-35), 3) := by decide +kernel
theorem dL_isSo_586 : decode cL_isSo 586 = .ok (.iconst 0, 1) := by decide +kernel
theorem dL_isSo_587 : decode cL_isSo 587 = .ok (.istore 8, 2) := by decide +kernel
theorem dL_isSo_589 : decode cL_isSo 589 = .ok (.iload 8, 2) := by decide +kernel
theorem dL_isSo_591 : decode cL_isSo 591 = .ok (.iconst 5, 1) := by decide +kernel
theorem dL_isSo_592 : decode cL_isSo 592 = .ok (.if_icmp .ge 41, 3) := by decide +kernel
theorem dL_isSo_595 : decode cL_isSo 595 = .ok (.iload 5, 2) := by decide +kernel
theorem dL_isSo_597 : decode cL_isSo 597 = .ok (.ifCond .eq 27, 3) := by decide +kernel
theorem dL_isSo_600 : decode cL_isSo 600 = .ok (.aload_n 0, 1) := by decide +kernel
theorem dL_isSo_601 : decode cL_isSo 601 = .ok (.iload 6, 2) := by decide +kernel
theorem dL_isSo_603 : decode cL_isSo 603 = .ok (.iload 8, 2) := by decide +kernel
theorem dL_isSo_605 : decode cL_isSo 605 = .ok (.invokestatic 185, 3) := by decide +kernel
theorem dL_isSo_608 : decode cL_isSo 608 = .ok (.aload_n 3, 1) := by decide +kernel
theorem dL_isSo_609 : decode cL_isSo 609 = .ok (.iconst 5, 1) := by decide +kernel
theorem dL_isSo_610 : decode cL_isSo 610 = .ok (.iload 6, 2) := by decide +kernel
theorem dL_isSo_612 : decode cL_isSo 612 = .ok (.imul, 1) := by decide +kernel
theorem dL_isSo_613 : decode cL_isSo 613 = .ok (.iload 8, 2) := by decide +kernel
theorem dL_isSo_615 : decode cL_isSo 615 = .ok (.iadd, 1) := by decide +kernel
theorem dL_isSo_616 : decode cL_isSo 616 = .ok (.iaload, 1) := by decide +kernel
theorem dL_isSo_617 : decode cL_isSo 617 = .ok (.if_icmp .ne 7, 3) := by decide +kernel
theorem dL_isSo_620 : decode cL_isSo 620 = .ok (.iconst 1, 1) := by decide +kernel
theorem dL_isSo_621 : decode cL_isSo 621 = .ok (.goto 4, 3) := by decide +kernel
theorem dL_isSo_624 : decode cL_isSo 624 = .ok (.iconst 0, 1) := by decide +kernel
theorem dL_isSo_625 : decode cL_isSo 625 = .ok (.istore 5, 2) := by decide +kernel
theorem dL_isSo_627 : decode cL_isSo 627 = .ok (.iinc 8 1, 3) := by decide +kernel
theorem dL_isSo_630 : decode cL_isSo 630 = .ok (.goto (-41), 3) := by decide +kernel
theorem dL_isSo_633 : decode cL_isSo 633 = .ok (.iload 5, 2) := by decide +kernel
theorem dL_isSo_635 : decode cL_isSo 635 = .ok (.ifCond .eq 78, 3) := by decide +kernel
theorem dL_isSo_638 : decode cL_isSo 638 = .ok (.aload_n 0, 1) := by decide +kernel
theorem dL_isSo_639 : decode cL_isSo 639 = .ok (.iload 6, 2) := by decide +kernel
theorem dL_isSo_641 : decode cL_isSo 641 = .ok (.iconst 5, 1) := by decide +kernel
theorem dL_isSo_642 : decode cL_isSo 642 = .ok (.invokestatic 185, 3) := by decide +kernel
theorem dL_isSo_645 : decode cL_isSo 645 = .ok (.aload_n 2, 1) := by decide +kernel
theorem dL_isSo_646 : decode cL_isSo 646 = .ok (.aload_n 3, 1) := by decide +kernel
theorem dL_isSo_647 : decode cL_isSo 647 = .ok (.iload 6, 2) := by decide +kernel
theorem dL_isSo_649 : decode cL_isSo 649 = .ok (.invokestatic 19, 3) := by decide +kernel
theorem dL_isSo_652 : decode cL_isSo 652 = .ok (.if_icmp .ne 61, 3) := by decide +kernel
theorem dL_isSo_655 : decode cL_isSo 655 = .ok (.aload_n 0, 1) := by decide +kernel
theorem dL_isSo_656 : decode cL_isSo 656 = .ok (.iload 6, 2) := by decide +kernel
theorem dL_isSo_658 : decode cL_isSo 658 = .ok (.bipush 6, 2) := by decide +kernel
theorem dL_isSo_660 : decode cL_isSo 660 = .ok (.invokestatic 185, 3) := by decide +kernel
theorem dL_isSo_663 : decode cL_isSo 663 = .ok (.aload_n 1, 1) := by decide +kernel
theorem dL_isSo_664 : decode cL_isSo 664 = .ok (.aload_n 3, 1) := by decide +kernel
theorem dL_isSo_665 : decode cL_isSo 665 = .ok (.invokestatic 46, 3) := by decide +kernel
theorem dL_isSo_668 : decode cL_isSo 668 = .ok (.iload 6, 2) := by decide +kernel
theorem dL_isSo_670 : decode cL_isSo 670 = .ok (.ishr, 1) := by decide +kernel
theorem dL_isSo_671 : decode cL_isSo 671 = .ok (.iconst 1, 1) := by decide +kernel
theorem dL_isSo_672 : decode cL_isSo 672 = .ok (.iand, 1) := by decide +kernel
theorem dL_isSo_673 : decode cL_isSo 673 = .ok (.if_icmp .ne 40, 3) := by decide +kernel
theorem dL_isSo_676 : decode cL_isSo 676 = .ok (.aload_n 0, 1) := by decide +kernel
theorem dL_isSo_677 : decode cL_isSo 677 = .ok (.iload 6, 2) := by decide +kernel
theorem dL_isSo_679 : decode cL_isSo 679 = .ok (.bipush 7, 2) := by decide +kernel
theorem dL_isSo_681 : decode cL_isSo 681 = .ok (.invokestatic 185, 3) := by decide +kernel
theorem dL_isSo_684 : decode cL_isSo 684 = .ok (.aload 4, 2) := by decide +kernel
theorem dL_isSo_686 : decode cL_isSo 686 = .ok (.iconst 3, 1) := by decide +kernel
theorem dL_isSo_687 : decode cL_isSo 687 = .ok (.iaload, 1) := by decide +kernel
theorem dL_isSo_688 : decode cL_isSo 688 = .ok (.iload 6, 2) := by decide +kernel
theorem dL_isSo_690 : decode cL_isSo 690 = .ok (.ishr, 1) := by decide +kernel
theorem dL_isSo_691 : decode cL_isSo 691 = .ok (.iconst 1, 1) := by decide +kernel
theorem dL_isSo_692 : decode cL_isSo 692 = .ok (.iand, 1) := by decide +kernel
theorem dL_isSo_693 : decode cL_isSo 693 = .ok (.if_icmp .ne 20, 3) := by decide +kernel
theorem dL_isSo_696 : decode cL_isSo 696 = .ok (.aload_n 0, 1) := by decide +kernel
theorem dL_isSo_697 : decode cL_isSo 697 = .ok (.iload 6, 2) := by decide +kernel
theorem dL_isSo_699 : decode cL_isSo 699 = .ok (.bipush 8, 2) := by decide +kernel
theorem dL_isSo_701 : decode cL_isSo 701 = .ok (.invokestatic 185, 3) := by decide +kernel
theorem dL_isSo_704 : decode cL_isSo 704 = .ok (.iload 7, 2) := by decide +kernel
theorem dL_isSo_706 : decode cL_isSo 706 = .ok (.if_icmp .ne 7, 3) := by decide +kernel
theorem dL_isSo_709 : decode cL_isSo 709 = .ok (.iconst 1, 1) := by decide +kernel
theorem dL_isSo_710 : decode cL_isSo 710 = .ok (.goto 4, 3) := by decide +kernel
theorem dL_isSo_713 : decode cL_isSo 713 = .ok (.iconst 0, 1) := by decide +kernel
theorem dL_isSo_714 : decode cL_isSo 714 = .ok (.istore 5, 2) := by decide +kernel
theorem dL_isSo_716 : decode cL_isSo 716 = .ok (.iinc 6 1, 3) := by decide +kernel
theorem dL_isSo_719 : decode cL_isSo 719 = .ok (.goto (-191), 3) := by decide +kernel
theorem dL_isSo_722 : decode cL_isSo 722 = .ok (.iconst 0, 1) := by decide +kernel
theorem dL_isSo_723 : decode cL_isSo 723 = .ok (.istore 6, 2) := by decide +kernel
theorem dL_isSo_725 : decode cL_isSo 725 = .ok (.iload 6, 2) := by decide +kernel
theorem dL_isSo_727 : decode cL_isSo 727 = .ok (.iconst 4, 1) := by decide +kernel
theorem dL_isSo_728 : decode cL_isSo 728 = .ok (.if_icmp .ge 206, 3) := by decide +kernel
theorem dL_isSo_731 : decode cL_isSo 731 = .ok (.iload 5, 2) := by decide +kernel
theorem dL_isSo_733 : decode cL_isSo 733 = .ok (.ifCond .eq 201, 3) := by decide +kernel
theorem dL_isSo_736 : decode cL_isSo 736 = .ok (.iconst 0, 1) := by decide +kernel
theorem dL_isSo_737 : decode cL_isSo 737 = .ok (.istore 7, 2) := by decide +kernel
theorem dL_isSo_739 : decode cL_isSo 739 = .ok (.iconst 0, 1) := by decide +kernel
theorem dL_isSo_740 : decode cL_isSo 740 = .ok (.istore 8, 2) := by decide +kernel
theorem dL_isSo_742 : decode cL_isSo 742 = .ok (.iload 8, 2) := by decide +kernel
theorem dL_isSo_744 : decode cL_isSo 744 = .ok (.aload 4, 2) := by decide +kernel
theorem dL_isSo_746 : decode cL_isSo 746 = .ok (.iconst 0, 1) := by decide +kernel
theorem dL_isSo_747 : decode cL_isSo 747 = .ok (.iaload, 1) := by decide +kernel
theorem dL_isSo_748 : decode cL_isSo 748 = .ok (.if_icmp .ge 56, 3) := by decide +kernel
theorem dL_isSo_751 : decode cL_isSo 751 = .ok (.iload 7, 2) := by decide +kernel
theorem dL_isSo_753 : decode cL_isSo 753 = .ok (.aload 4, 2) := by decide +kernel
theorem dL_isSo_755 : decode cL_isSo 755 = .ok (.bipush 10, 2) := by decide +kernel
theorem dL_isSo_757 : decode cL_isSo 757 = .ok (.iload 8, 2) := by decide +kernel
theorem dL_isSo_759 : decode cL_isSo 759 = .ok (.iadd, 1) := by decide +kernel
theorem dL_isSo_760 : decode cL_isSo 760 = .ok (.iaload, 1) := by decide +kernel
theorem dL_isSo_761 : decode cL_isSo 761 = .ok (.sipush 20000, 3) := by decide +kernel
theorem dL_isSo_764 : decode cL_isSo 764 = .ok (.idiv, 1) := by decide +kernel
theorem dL_isSo_765 : decode cL_isSo 765 = .ok (.ifCond .ne 29, 3) := by decide +kernel
theorem dL_isSo_768 : decode cL_isSo 768 = .ok (.aload 4, 2) := by decide +kernel
theorem dL_isSo_770 : decode cL_isSo 770 = .ok (.bipush 10, 2) := by decide +kernel
theorem dL_isSo_772 : decode cL_isSo 772 = .ok (.iload 8, 2) := by decide +kernel
theorem dL_isSo_774 : decode cL_isSo 774 = .ok (.iadd, 1) := by decide +kernel
theorem dL_isSo_775 : decode cL_isSo 775 = .ok (.iaload, 1) := by decide +kernel
theorem dL_isSo_776 : decode cL_isSo 776 = .ok (.sipush 1000, 3) := by decide +kernel
theorem dL_isSo_779 : decode cL_isSo 779 = .ok (.idiv, 1) := by decide +kernel
theorem dL_isSo_780 : decode cL_isSo 780 = .ok (.bipush 20, 2) := by decide +kernel
theorem dL_isSo_782 : decode cL_isSo 782 = .ok (.irem, 1) := by decide +kernel
theorem dL_isSo_783 : decode cL_isSo 783 = .ok (.iload 6, 2) := by decide +kernel
theorem dL_isSo_785 : decode cL_isSo 785 = .ok (.iconst 1, 1) := by decide +kernel
theorem dL_isSo_786 : decode cL_isSo 786 = .ok (.iadd, 1) := by decide +kernel
theorem dL_isSo_787 : decode cL_isSo 787 = .ok (.if_icmp .ne 7, 3) := by decide +kernel
theorem dL_isSo_790 : decode cL_isSo 790 = .ok (.iconst 1, 1) := by decide +kernel
theorem dL_isSo_791 : decode cL_isSo 791 = .ok (.goto 4, 3) := by decide +kernel
theorem dL_isSo_794 : decode cL_isSo 794 = .ok (.iconst 0, 1) := by decide +kernel
theorem dL_isSo_795 : decode cL_isSo 795 = .ok (.iadd, 1) := by decide +kernel
theorem dL_isSo_796 : decode cL_isSo 796 = .ok (.istore 7, 2) := by decide +kernel
theorem dL_isSo_798 : decode cL_isSo 798 = .ok (.iinc 8 1, 3) := by decide +kernel
theorem dL_isSo_801 : decode cL_isSo 801 = .ok (.goto (-59), 3) := by decide +kernel
theorem dL_isSo_804 : decode cL_isSo 804 = .ok (.iconst 0, 1) := by decide +kernel
theorem dL_isSo_805 : decode cL_isSo 805 = .ok (.istore 8, 2) := by decide +kernel
theorem dL_isSo_807 : decode cL_isSo 807 = .ok (.iload 8, 2) := by decide +kernel
theorem dL_isSo_809 : decode cL_isSo 809 = .ok (.bipush 8, 2) := by decide +kernel
theorem dL_isSo_811 : decode cL_isSo 811 = .ok (.if_icmp .ge 68, 3) := by decide +kernel
theorem dL_isSo_814 : decode cL_isSo 814 = .ok (.iload 5, 2) := by decide +kernel
theorem dL_isSo_816 : decode cL_isSo 816 = .ok (.ifCond .eq 54, 3) := by decide +kernel
theorem dL_isSo_819 : decode cL_isSo 819 = .ok (.aload_n 0, 1) := by decide +kernel
theorem dL_isSo_820 : decode cL_isSo 820 = .ok (.iload 6, 2) := by decide +kernel
theorem dL_isSo_822 : decode cL_isSo 822 = .ok (.iload 8, 2) := by decide +kernel
theorem dL_isSo_824 : decode cL_isSo 824 = .ok (.invokestatic 188, 3) := by decide +kernel
theorem dL_isSo_827 : decode cL_isSo 827 = .ok (.iload 8, 2) := by decide +kernel
theorem dL_isSo_829 : decode cL_isSo 829 = .ok (.iconst 2, 1) := by decide +kernel
theorem dL_isSo_830 : decode cL_isSo 830 = .ok (.if_icmp .le 23, 3) := by decide +kernel
theorem dL_isSo_833 : decode cL_isSo 833 = .ok (.iload 8, 2) := by decide +kernel
theorem dL_isSo_835 : decode cL_isSo 835 = .ok (.iconst 3, 1) := by decide +kernel
theorem dL_isSo_836 : decode cL_isSo 836 = .ok (.isub, 1) := by decide +kernel
theorem dL_isSo_837 : decode cL_isSo 837 = .ok (.aload_n 2, 1) := by decide +kernel
theorem dL_isSo_838 : decode cL_isSo 838 = .ok (.bipush 8, 2) := by decide +kernel
theorem dL_isSo_840 : decode cL_isSo 840 = .ok (.iload 6, 2) := by decide +kernel
theorem dL_isSo_842 : decode cL_isSo 842 = .ok (.imul, 1) := by decide +kernel
theorem dL_isSo_843 : decode cL_isSo 843 = .ok (.iconst 2, 1) := by decide +kernel
theorem dL_isSo_844 : decode cL_isSo 844 = .ok (.iadd, 1) := by decide +kernel
theorem dL_isSo_845 : decode cL_isSo 845 = .ok (.iaload, 1) := by decide +kernel
theorem dL_isSo_846 : decode cL_isSo 846 = .ok (.if_icmp .lt 7, 3) := by decide +kernel
theorem dL_isSo_849 : decode cL_isSo 849 = .ok (.iconst (-1), 1) := by decide +kernel
theorem dL_isSo_850 : decode cL_isSo 850 = .ok (.goto 13, 3) := by decide +kernel
theorem dL_isSo_853 : decode cL_isSo 853 = .ok (.aload_n 2, 1) := by decide +kernel
theorem dL_isSo_854 : decode cL_isSo 854 = .ok (.bipush 8, 2) := by decide +kernel
theorem dL_isSo_856 : decode cL_isSo 856 = .ok (.iload 6, 2) := by decide +kernel
theorem dL_isSo_858 : decode cL_isSo 858 = .ok (.imul, 1) := by decide +kernel
theorem dL_isSo_859 : decode cL_isSo 859 = .ok (.iload 8, 2) := by decide +kernel
theorem dL_isSo_861 : decode cL_isSo 861 = .ok (.iadd, 1) := by decide +kernel
theorem dL_isSo_862 : decode cL_isSo 862 = .ok (.iaload, 1) := by decide +kernel
theorem dL_isSo_863 : decode cL_isSo 863 = .ok (.if_icmp .ne 7, 3) := by decide +kernel
theorem dL_isSo_866 : decode cL_isSo 866 = .ok (.iconst 1, 1) := by decide +kernel
theorem dL_isSo_867 : decode cL_isSo 867 = .ok (.goto 4, 3) := by decide +kernel
theorem dL_isSo_870 : decode cL_isSo 870 = .ok (.iconst 0, 1) := by decide +kernel
theorem dL_isSo_871 : decode cL_isSo 871 = .ok (.istore 5, 2) := by decide +kernel
theorem dL_isSo_873 : decode cL_isSo 873 = .ok (.iinc 8 1, 3) := by decide +kernel
theorem dL_isSo_876 : decode cL_isSo 876 = .ok (.goto (-69), 3) := by decide +kernel
theorem dL_isSo_879 : decode cL_isSo 879 = .ok (.iload 5, 2) := by decide +kernel
theorem dL_isSo_881 : decode cL_isSo 881 = .ok (.ifCond .eq 44, 3) := by decide +kernel
theorem dL_isSo_884 : decode cL_isSo 884 = .ok (.aload_n 0, 1) := by decide +kernel
theorem dL_isSo_885 : decode cL_isSo 885 = .ok (.iload 6, 2) := by decide +kernel
theorem dL_isSo_887 : decode cL_isSo 887 = .ok (.bipush 8, 2) := by decide +kernel
theorem dL_isSo_889 : decode cL_isSo 889 = .ok (.invokestatic 188, 3) := by decide +kernel
theorem dL_isSo_892 : decode cL_isSo 892 = .ok (.iload 7, 2) := by decide +kernel
theorem dL_isSo_894 : decode cL_isSo 894 = .ok (.if_icmp .ne 31, 3) := by decide +kernel
theorem dL_isSo_897 : decode cL_isSo 897 = .ok (.aload_n 0, 1) := by decide +kernel
theorem dL_isSo_898 : decode cL_isSo 898 = .ok (.iload 6, 2) := by decide +kernel
theorem dL_isSo_900 : decode cL_isSo 900 = .ok (.bipush 9, 2) := by decide +kernel
theorem dL_isSo_902 : decode cL_isSo 902 = .ok (.invokestatic 188, 3) := by decide +kernel
theorem dL_isSo_905 : decode cL_isSo 905 = .ok (.aload_n 2, 1) := by decide +kernel
theorem dL_isSo_906 : decode cL_isSo 906 = .ok (.aload_n 3, 1) := by decide +kernel
theorem dL_isSo_907 : decode cL_isSo 907 = .ok (.aload 4, 2) := by decide +kernel
theorem dL_isSo_909 : decode cL_isSo 909 = .ok (.iconst 3, 1) := by decide +kernel
theorem dL_isSo_910 : decode cL_isSo 910 = .ok (.iaload, 1) := by decide +kernel
theorem dL_isSo_911 : decode cL_isSo 911 = .ok (.iload 6, 2) := by decide +kernel
theorem dL_isSo_913 : decode cL_isSo 913 = .ok (.iconst 0, 1) := by decide +kernel
theorem dL_isSo_914 : decode cL_isSo 914 = .ok (.iconst 5, 1) := by decide +kernel
theorem dL_isSo_915 : decode cL_isSo 915 = .ok (.invokestatic 23, 3) := by decide +kernel
theorem dL_isSo_918 : decode cL_isSo 918 = .ok (.if_icmp .ne 7, 3) := by decide +kernel
theorem dL_isSo_921 : decode cL_isSo 921 = .ok (.iconst 1, 1) := by decide +kernel
theorem dL_isSo_922 : decode cL_isSo 922 = .ok (.goto 4, 3) := by decide +kernel
theorem dL_isSo_925 : decode cL_isSo 925 = .ok (.iconst 0, 1) := by decide +kernel
theorem dL_isSo_926 : decode cL_isSo 926 = .ok (.istore 5, 2) := by decide +kernel
theorem dL_isSo_928 : decode cL_isSo 928 = .ok (.iinc 6 1, 3) := by decide +kernel
theorem dL_isSo_931 : decode cL_isSo 931 = .ok (.goto (-206), 3) := by decide +kernel
theorem dL_isSo_934 : decode cL_isSo 934 = .ok (.iload 5, 2) := by decide +kernel
theorem dL_isSo_936 : decode cL_isSo 936 = .ok (.ifCond .eq 33, 3) := by decide +kernel
theorem dL_isSo_939 : decode cL_isSo 939 = .ok (.aload_n 0, 1) := by decide +kernel
theorem dL_isSo_940 : decode cL_isSo 940 = .ok (.aload 4, 2) := by decide +kernel
theorem dL_isSo_942 : decode cL_isSo 942 = .ok (.iconst 0, 1) := by decide +kernel
theorem dL_isSo_943 : decode cL_isSo 943 = .ok (.iaload, 1) := by decide +kernel
theorem dL_isSo_944 : decode cL_isSo 944 = .ok (.iconst 0, 1) := by decide +kernel
theorem dL_isSo_945 : decode cL_isSo 945 = .ok (.invokestatic 182, 3) := by decide +kernel
theorem dL_isSo_948 : decode cL_isSo 948 = .ok (.ldc 93, 2) := by decide +kernel
theorem dL_isSo_950 : decode cL_isSo 950 = .ok (.if_icmp .ne 19, 3) := by decide +kernel
theorem dL_isSo_953 : decode cL_isSo 953 = .ok (.aload_n 0, 1) := by decide +kernel
theorem dL_isSo_954 : decode cL_isSo 954 = .ok (.bipush 11, 2) := by decide +kernel
theorem dL_isSo_956 : decode cL_isSo 956 = .ok (.iconst 0, 1) := by decide +kernel
theorem dL_isSo_957 : decode cL_isSo 957 = .ok (.invokestatic 188, 3) := by decide +kernel
theorem dL_isSo_960 : decode cL_isSo 960 = .ok (.bipush 11, 2) := by decide +kernel
theorem dL_isSo_962 : decode cL_isSo 962 = .ok (.if_icmp .ne 7, 3) := by decide +kernel
theorem dL_isSo_965 : decode cL_isSo 965 = .ok (.iconst 1, 1) := by decide +kernel
theorem dL_isSo_966 : decode cL_isSo 966 = .ok (.goto 4, 3) := by decide +kernel
theorem dL_isSo_969 : decode cL_isSo 969 = .ok (.iconst 0, 1) := by decide +kernel
theorem dL_isSo_970 : decode cL_isSo 970 = .ok (.ireturn, 1) := by decide +kernel
theorem dL_law_0 : decode cL_law 0 = .ok (.new 106, 3) := by decide +kernel
theorem dL_law_3 : decode cL_law 3 = .ok (.dup, 1) := by decide +kernel
theorem dL_law_4 : decode cL_law 4 = .ok (.invokespecial 191, 3) := by decide +kernel
theorem dL_law_7 : decode cL_law 7 = .ok (.astore_n 1, 1) := by decide +kernel
theorem dL_law_8 : decode cL_law 8 = .ok (.bipush 15, 2) := by decide +kernel
theorem dL_law_10 : decode cL_law 10 = .ok (.newarray .int, 2) := by decide +kernel
theorem dL_law_12 : decode cL_law 12 = .ok (.astore_n 2, 1) := by decide +kernel
theorem dL_law_13 : decode cL_law 13 = .ok (.bipush 32, 2) := by decide +kernel
theorem dL_law_15 : decode cL_law 15 = .ok (.newarray .int, 2) := by decide +kernel
theorem dL_law_17 : decode cL_law 17 = .ok (.astore_n 3, 1) := by decide +kernel
theorem dL_law_18 : decode cL_law 18 = .ok (.bipush 60, 2) := by decide +kernel
theorem dL_law_20 : decode cL_law 20 = .ok (.newarray .int, 2) := by decide +kernel
theorem dL_law_22 : decode cL_law 22 = .ok (.astore 4, 2) := by decide +kernel
theorem dL_law_24 : decode cL_law 24 = .ok (.bipush 64, 2) := by decide +kernel
theorem dL_law_26 : decode cL_law 26 = .ok (.newarray .int, 2) := by decide +kernel
theorem dL_law_28 : decode cL_law 28 = .ok (.astore 5, 2) := by decide +kernel
theorem dL_law_30 : decode cL_law 30 = .ok (.aload_n 2, 1) := by decide +kernel
theorem dL_law_31 : decode cL_law 31 = .ok (.aload_n 3, 1) := by decide +kernel
theorem dL_law_32 : decode cL_law 32 = .ok (.invokestatic 192, 3) := by decide +kernel
theorem dL_law_35 : decode cL_law 35 = .ok (.aload_n 1, 1) := by decide +kernel
theorem dL_law_36 : decode cL_law 36 = .ok (.aload_n 2, 1) := by decide +kernel
theorem dL_law_37 : decode cL_law 37 = .ok (.aload_n 3, 1) := by decide +kernel
theorem dL_law_38 : decode cL_law 38 = .ok (.aload 4, 2) := by decide +kernel
theorem dL_law_40 : decode cL_law 40 = .ok (.aload 5, 2) := by decide +kernel
theorem dL_law_42 : decode cL_law 42 = .ok (.invokestatic 196, 3) := by decide +kernel
theorem dL_law_45 : decode cL_law 45 = .ok (.istore 6, 2) := by decide +kernel
theorem dL_law_47 : decode cL_law 47 = .ok (.iconst 0, 1) := by decide +kernel
theorem dL_law_48 : decode cL_law 48 = .ok (.istore 7, 2) := by decide +kernel
theorem dL_law_50 : decode cL_law 50 = .ok (.iload 7, 2) := by decide +kernel
theorem dL_law_52 : decode cL_law 52 = .ok (.bipush 6, 2) := by decide +kernel
theorem dL_law_54 : decode cL_law 54 = .ok (.if_icmp .ge 46, 3) := by decide +kernel
theorem dL_law_57 : decode cL_law 57 = .ok (.iload 6, 2) := by decide +kernel
theorem dL_law_59 : decode cL_law 59 = .ok (.ifCond .eq 41, 3) := by decide +kernel
theorem dL_law_62 : decode cL_law 62 = .ok (.aload_n 1, 1) := by decide +kernel
theorem dL_law_63 : decode cL_law 63 = .ok (.aload_n 2, 1) := by decide +kernel
theorem dL_law_64 : decode cL_law 64 = .ok (.aload_n 3, 1) := by decide +kernel
theorem dL_law_65 : decode cL_law 65 = .ok (.aload 4, 2) := by decide +kernel
theorem dL_law_67 : decode cL_law 67 = .ok (.aload_n 0, 1) := by decide +kernel
theorem dL_law_68 : decode cL_law 68 = .ok (.iconst 1, 1) := by decide +kernel
theorem dL_law_69 : decode cL_law 69 = .ok (.iload 7, 2) := by decide +kernel
theorem dL_law_71 : decode cL_law 71 = .ok (.iadd, 1) := by decide +kernel
theorem dL_law_72 : decode cL_law 72 = .ok (.invokestatic 200, 3) := by decide +kernel
theorem dL_law_75 : decode cL_law 75 = .ok (.ldc 8, 2) := by decide +kernel
theorem dL_law_77 : decode cL_law 77 = .ok (.iand, 1) := by decide +kernel
theorem dL_law_78 : decode cL_law 78 = .ok (.sipush 640, 3) := by decide +kernel
theorem dL_law_81 : decode cL_law 81 = .ok (.idiv, 1) := by decide +kernel
theorem dL_law_82 : decode cL_law 82 = .ok (.sipush 640, 3) := by decide +kernel
theorem dL_law_85 : decode cL_law 85 = .ok (.imul, 1) := by decide +kernel
theorem dL_law_86 : decode cL_law 86 = .ok (.bipush 12, 2) := by decide +kernel
theorem dL_law_88 : decode cL_law 88 = .ok (.iadd, 1) := by decide +kernel
theorem dL_law_89 : decode cL_law 89 = .ok (.invokestatic 203, 3) := by decide +kernel
theorem dL_law_92 : decode cL_law 92 = .ok (.istore 6, 2) := by decide +kernel
theorem dL_law_94 : decode cL_law 94 = .ok (.iinc 7 1, 3) := by decide +kernel
theorem dL_law_97 : decode cL_law 97 = .ok (.goto (-47), 3) := by decide +kernel
theorem dL_law_100 : decode cL_law 100 = .ok (.iconst 4, 1) := by decide +kernel
theorem dL_law_101 : decode cL_law 101 = .ok (.aload_n 0, 1) := by decide +kernel
theorem dL_law_102 : decode cL_law 102 = .ok (.iconst 0, 1) := by decide +kernel
theorem dL_law_103 : decode cL_law 103 = .ok (.invokestatic 200, 3) := by decide +kernel
theorem dL_law_106 : decode cL_law 106 = .ok (.bipush 50, 2) := by decide +kernel
theorem dL_law_108 : decode cL_law 108 = .ok (.invokestatic 66, 3) := by decide +kernel
theorem dL_law_111 : decode cL_law 111 = .ok (.iadd, 1) := by decide +kernel
theorem dL_law_112 : decode cL_law 112 = .ok (.istore 7, 2) := by decide +kernel
theorem dL_law_114 : decode cL_law 114 = .ok (.iconst 0, 1) := by decide +kernel
theorem dL_law_115 : decode cL_law 115 = .ok (.istore 8, 2) := by decide +kernel
theorem dL_law_117 : decode cL_law 117 = .ok (.iload 8, 2) := by decide +kernel
theorem dL_law_119 : decode cL_law 119 = .ok (.iload 7, 2) := by decide +kernel
theorem dL_law_121 : decode cL_law 121 = .ok (.if_icmp .ge 68, 3) := by decide +kernel
theorem dL_law_124 : decode cL_law 124 = .ok (.iload 6, 2) := by decide +kernel
theorem dL_law_126 : decode cL_law 126 = .ok (.ifCond .eq 63, 3) := by decide +kernel
theorem dL_law_129 : decode cL_law 129 = .ok (.aload_n 1, 1) := by decide +kernel
theorem dL_law_130 : decode cL_law 130 = .ok (.aload_n 2, 1) := by decide +kernel
theorem dL_law_131 : decode cL_law 131 = .ok (.aload_n 3, 1) := by decide +kernel
theorem dL_law_132 : decode cL_law 132 = .ok (.aload 4, 2) := by decide +kernel
theorem dL_law_134 : decode cL_law 134 = .ok (.aload_n 0, 1) := by decide +kernel
theorem dL_law_135 : decode cL_law 135 = .ok (.bipush 7, 2) := by decide +kernel
theorem dL_law_137 : decode cL_law 137 = .ok (.iload 8, 2) := by decide +kernel
theorem dL_law_139 : decode cL_law 139 = .ok (.iadd, 1) := by decide +kernel
theorem dL_law_140 : decode cL_law 140 = .ok (.invokestatic 200, 3) := by decide +kernel
theorem dL_law_143 : decode cL_law 143 = .ok (.sipush 7919, 3) := by decide +kernel
theorem dL_law_146 : decode cL_law 146 = .ok (.iload 8, 2) := by decide +kernel
theorem dL_law_148 : decode cL_law 148 = .ok (.imul, 1) := by decide +kernel
theorem dL_law_149 : decode cL_law 149 = .ok (.ixor, 1) := by decide +kernel
theorem dL_law_150 : decode cL_law 150 = .ok (.invokestatic 203, 3) := by decide +kernel
theorem dL_law_153 : decode cL_law 153 = .ok (.ifCond .eq 27, 3) := by decide +kernel
theorem dL_law_156 : decode cL_law 156 = .ok (.iload 8, 2) := by decide +kernel
theorem dL_law_158 : decode cL_law 158 = .ok (.iconst 2, 1) := by decide +kernel
theorem dL_law_159 : decode cL_law 159 = .ok (.irem, 1) := by decide +kernel
theorem dL_law_160 : decode cL_law 160 = .ok (.ifCond .gt 16, 3) := by decide +kernel
theorem dL_law_163 : decode cL_law 163 = .ok (.aload_n 1, 1) := by decide +kernel
theorem dL_law_164 : decode cL_law 164 = .ok (.aload_n 2, 1) := by decide +kernel
theorem dL_law_165 : decode cL_law 165 = .ok (.aload_n 3, 1) := by decide +kernel
theorem dL_law_166 : decode cL_law 166 = .ok (.aload 4, 2) := by decide +kernel
theorem dL_law_168 : decode cL_law 168 = .ok (.aload 5, 2) := by decide +kernel
theorem dL_law_170 : decode cL_law 170 = .ok (.invokestatic 196, 3) := by decide +kernel
theorem dL_law_173 : decode cL_law 173 = .ok (.ifCond .eq 7, 3) := by decide +kernel
theorem dL_law_176 : decode cL_law 176 = .ok (.iconst 1, 1) := by decide +kernel
theorem dL_law_177 : decode cL_law 177 = .ok (.goto 4, 3) := by decide +kernel
theorem dL_law_180 : decode cL_law 180 = .ok (.iconst 0, 1) := by decide +kernel
theorem dL_law_181 : decode cL_law 181 = .ok (.istore 6, 2) := by decide +kernel
theorem dL_law_183 : decode cL_law 183 = .ok (.iinc 8 1, 3) := by decide +kernel
theorem dL_law_186 : decode cL_law 186 = .ok (.goto (-69), 3) := by decide +kernel
theorem dL_law_189 : decode cL_law 189 = .ok (.iload 6, 2) := by decide +kernel
theorem dL_law_191 : decode cL_law 191 = .ok (.ifCond .eq 20, 3) := by decide +kernel
theorem dL_law_194 : decode cL_law 194 = .ok (.aload_n 1, 1) := by decide +kernel
theorem dL_law_195 : decode cL_law 195 = .ok (.aload_n 2, 1) := by decide +kernel
theorem dL_law_196 : decode cL_law 196 = .ok (.aload_n 3, 1) := by decide +kernel
theorem dL_law_197 : decode cL_law 197 = .ok (.aload 4, 2) := by decide +kernel
theorem dL_law_199 : decode cL_law 199 = .ok (.aload 5, 2) := by decide +kernel
theorem dL_law_201 : decode cL_law 201 = .ok (.invokestatic 196, 3) := by decide +kernel
theorem dL_law_204 : decode cL_law 204 = .ok (.ifCond .eq 7, 3) := by decide +kernel
theorem dL_law_207 : decode cL_law 207 = .ok (.iconst 1, 1) := by decide +kernel
theorem dL_law_208 : decode cL_law 208 = .ok (.goto 4, 3) := by decide +kernel
theorem dL_law_211 : decode cL_law 211 = .ok (.iconst 0, 1) := by decide +kernel
theorem dL_law_212 : decode cL_law 212 = .ok (.ireturn, 1) := by decide +kernel
end
section
theorem dL_cell_0 : decode cL_cell 0 = .ok (.iload_n 1, 1) := by decide +kernel
theorem dL_cell_1 : decode cL_cell 1 = .ok (.aload_n 0, 1) := by decide +kernel
theorem dL_cell_2 : decode cL_cell 2 = .ok (.arraylength, 1) := by decide +kernel
theorem dL_cell_3 : decode cL_cell 3 = .ok (.if_icmp .ge 9, 3) := by decide +kernel
theorem dL_cell_6 : decode cL_cell 6 = .ok (.aload_n 0, 1) := by decide +kernel
theorem dL_cell_7 : decode cL_cell 7 = .ok (.iload_n 1, 1) := by decide +kernel
theorem dL_cell_8 : decode cL_cell 8 = .ok (.iaload, 1) := by decide +kernel
theorem dL_cell_9 : decode cL_cell 9 = .ok (.goto 9, 3) := by decide +kernel
theorem dL_cell_12 : decode cL_cell 12 = .ok (.ldc 7, 2) := by decide +kernel
theorem dL_cell_14 : decode cL_cell 14 = .ok (.iload_n 1, 1) := by decide +kernel
theorem dL_cell_15 : decode cL_cell 15 = .ok (.iconst 3, 1) := by decide +kernel
theorem dL_cell_16 : decode cL_cell 16 = .ok (.iadd, 1) := by decide +kernel
theorem dL_cell_17 : decode cL_cell 17 = .ok (.imul, 1) := by decide +kernel
theorem dL_cell_18 : decode cL_cell 18 = .ok (.ireturn, 1) := by decide +kernel
theorem dL_low_0 : decode cL_low 0 = .ok (.iload_n 0, 1) := by decide +kernel
theorem dL_low_1 : decode cL_low 1 = .ok (.ldc 8, 2) := by decide +kernel
theorem dL_low_3 : decode cL_low 3 = .ok (.iand, 1) := by decide +kernel
theorem dL_low_4 : decode cL_low 4 = .ok (.iload_n 1, 1) := by decide +kernel
theorem dL_low_5 : decode cL_low 5 = .ok (.irem, 1) := by decide +kernel
theorem dL_low_6 : decode cL_low 6 = .ok (.ireturn, 1) := by decide +kernel
theorem dL_classOf_0 : decode cL_classOf 0 = .ok (.bipush 8, 2) := by decide +kernel
theorem dL_classOf_2 : decode cL_classOf 2 = .ok (.aload_n 1, 1) := by decide +kernel
theorem dL_classOf_3 : decode cL_classOf 3 = .ok (.iconst 5, 1) := by decide +kernel
theorem dL_classOf_4 : decode cL_classOf 4 = .ok (.iload_n 2, 1) := by decide +kernel
theorem dL_classOf_5 : decode cL_classOf 5 = .ok (.imul, 1) := by decide +kernel
theorem dL_classOf_6 : decode cL_classOf 6 = .ok (.iaload, 1) := by decide +kernel
theorem dL_classOf_7 : decode cL_classOf 7 = .ok (.imul, 1) := by decide +kernel
theorem dL_classOf_8 : decode cL_classOf 8 = .ok (.istore_n 3, 1) := by decide +kernel
theorem dL_classOf_9 : decode cL_classOf 9 = .ok (.iconst 0, 1) := by decide +kernel
theorem dL_classOf_10 : decode cL_classOf 10 = .ok (.istore 4, 2) := by decide +kernel
theorem dL_classOf_12 : decode cL_classOf 12 = .ok (.iload 4, 2) := by decide +kernel
theorem dL_classOf_14 : decode cL_classOf 14 = .ok (.aload_n 0, 1) := by decide +kernel
theorem dL_classOf_15 : decode cL_classOf 15 = .ok (.iload_n 3, 1) := by decide +kernel
theorem dL_classOf_16 : decode cL_classOf 16 = .ok (.iconst 2, 1) := by decide +kernel
theorem dL_classOf_17 : decode cL_classOf 17 = .ok (.iadd, 1) := by decide +kernel
theorem dL_classOf_18 : decode cL_classOf 18 = .ok (.iaload, 1) := by decide +kernel
theorem dL_classOf_19 : decode cL_classOf 19 = .ok (.if_icmp .ge 27, 3) := by decide +kernel
theorem dL_classOf_22 : decode cL_classOf 22 = .ok (.aload_n 0, 1) := by decide +kernel
theorem dL_classOf_23 : decode cL_classOf 23 = .ok (.iload_n 3, 1) := by decide +kernel
theorem dL_classOf_24 : decode cL_classOf 24 = .ok (.iconst 3, 1) := by decide +kernel
theorem dL_classOf_25 : decode cL_classOf 25 = .ok (.iadd, 1) := by decide +kernel
theorem dL_classOf_26 : decode cL_classOf 26 = .ok (.iload 4, 2) := by decide +kernel
theorem dL_classOf_28 : decode cL_classOf 28 = .ok (.iadd, 1) := by decide +kernel
theorem dL_classOf_29 : decode cL_classOf 29 = .ok (.iaload, 1) := by decide +kernel
theorem dL_classOf_30 : decode cL_classOf 30 = .ok (.aload_n 1, 1) := by decide +kernel
theorem dL_classOf_31 : decode cL_classOf 31 = .ok (.iconst 5, 1) := by decide +kernel
theorem dL_classOf_32 : decode cL_classOf 32 = .ok (.iload_n 2, 1) := by decide +kernel
theorem dL_classOf_33 : decode cL_classOf 33 = .ok (.imul, 1) := by decide +kernel
theorem dL_classOf_34 : decode cL_classOf 34 = .ok (.iconst 3, 1) := by decide +kernel
theorem dL_classOf_35 : decode cL_classOf 35 = .ok (.iadd, 1) := by decide +kernel
theorem dL_classOf_36 : decode cL_classOf 36 = .ok (.iaload, 1) := by decide +kernel
theorem dL_classOf_37 : decode cL_classOf 37 = .ok (.if_icmp .gt 9, 3) := by decide +kernel
theorem dL_classOf_40 : decode cL_classOf 40 = .ok (.iinc 4 1, 3) := by decide +kernel
theorem dL_classOf_43 : decode cL_classOf 43 = .ok (.goto (-31), 3) := by decide +kernel
theorem dL_classOf_46 : decode cL_classOf 46 = .ok (.iload 4, 2) := by decide +kernel
theorem dL_classOf_48 : decode cL_classOf 48 = .ok (.ireturn, 1) := by decide +kernel
theorem dL_within_0 : decode cL_within 0 = .ok (.aload_n 1, 1) := by decide +kernel
theorem dL_within_1 : decode cL_within 1 = .ok (.iconst 5, 1) := by decide +kernel
theorem dL_within_2 : decode cL_within 2 = .ok (.iload_n 2, 1) := by decide +kernel
theorem dL_within_3 : decode cL_within 3 = .ok (.imul, 1) := by decide +kernel
theorem dL_within_4 : decode cL_within 4 = .ok (.iconst 1, 1) := by decide +kernel
theorem dL_within_5 : decode cL_within 5 = .ok (.iadd, 1) := by decide +kernel
theorem dL_within_6 : decode cL_within 6 = .ok (.iaload, 1) := by decide +kernel
theorem dL_within_7 : decode cL_within 7 = .ok (.aload_n 0, 1) := by decide +kernel
theorem dL_within_8 : decode cL_within 8 = .ok (.iconst 4, 1) := by decide +kernel
theorem dL_within_9 : decode cL_within 9 = .ok (.iaload, 1) := by decide +kernel
theorem dL_within_10 : decode cL_within 10 = .ok (.if_icmp .lt 56, 3) := by decide +kernel
theorem dL_within_13 : decode cL_within 13 = .ok (.aload_n 1, 1) := by decide +kernel
theorem dL_within_14 : decode cL_within 14 = .ok (.iconst 5, 1) := by decide +kernel
theorem dL_within_15 : decode cL_within 15 = .ok (.iload_n 2, 1) := by decide +kernel
theorem dL_within_16 : decode cL_within 16 = .ok (.imul, 1) := by decide +kernel
theorem dL_within_17 : decode cL_within 17 = .ok (.iconst 1, 1) := by decide +kernel
theorem dL_within_18 : decode cL_within 18 = .ok (.iadd, 1) := by decide +kernel
theorem dL_within_19 : decode cL_within 19 = .ok (.iaload, 1) := by decide +kernel
theorem dL_within_20 : decode cL_within 20 = .ok (.aload_n 0, 1) := by decide +kernel
theorem dL_within_21 : decode cL_within 21 = .ok (.iconst 4, 1) := by decide +kernel
theorem dL_within_22 : decode cL_within 22 = .ok (.iaload, 1) := by decide +kernel
theorem dL_within_23 : decode cL_within 23 = .ok (.aload_n 0, 1) := by decide +kernel
theorem dL_within_24 : decode cL_within 24 = .ok (.bipush 6, 2) := by decide +kernel
theorem dL_within_26 : decode cL_within 26 = .ok (.iaload, 1) := by decide +kernel
theorem dL_within_27 : decode cL_within 27 = .ok (.iadd, 1) := by decide +kernel
theorem dL_within_28 : decode cL_within 28 = .ok (.if_icmp .ge 38, 3) := by decide +kernel
theorem dL_within_31 : decode cL_within 31 = .ok (.aload_n 1, 1) := by decide +kernel
theorem dL_within_32 : decode cL_within 32 = .ok (.iconst 5, 1) := by decide +kernel
theorem dL_within_33 : decode cL_within 33 = .ok (.iload_n 2, 1) := by decide +kernel
theorem dL_within_34 : decode cL_within 34 = .ok (.imul, 1) := by decide +kernel
theorem dL_within_35 : decode cL_within 35 = .ok (.iconst 2, 1) := by decide +kernel
theorem dL_within_36 : decode cL_within 36 = .ok (.iadd, 1) := by decide +kernel
theorem dL_within_37 : decode cL_within 37 = .ok (.iaload, 1) := by decide +kernel
theorem dL_within_38 : decode cL_within 38 = .ok (.aload_n 0, 1) := by decide +kernel
theorem dL_within_39 : decode cL_within 39 = .ok (.iconst 5, 1) := by decide +kernel
theorem dL_within_40 : decode cL_within 40 = .ok (.iaload, 1) := by decide +kernel
theorem dL_within_41 : decode cL_within 41 = .ok (.if_icmp .lt 25, 3) := by decide +kernel
theorem dL_within_44 : decode cL_within 44 = .ok (.aload_n 1, 1) := by decide +kernel
theorem dL_within_45 : decode cL_within 45 = .ok (.iconst 5, 1) := by decide +kernel
theorem dL_within_46 : decode cL_within 46 = .ok (.iload_n 2, 1) := by decide +kernel
theorem dL_within_47 : decode cL_within 47 = .ok (.imul, 1) := by decide +kernel
theorem dL_within_48 : decode cL_within 48 = .ok (.iconst 2, 1) := by decide +kernel
theorem dL_within_49 : decode cL_within 49 = .ok (.iadd, 1) := by decide +kernel
theorem dL_within_50 : decode cL_within 50 = .ok (.iaload, 1) := by decide +kernel
theorem dL_within_51 : decode cL_within 51 = .ok (.aload_n 0, 1) := by decide +kernel
theorem dL_within_52 : decode cL_within 52 = .ok (.iconst 5, 1) := by decide +kernel
theorem dL_within_53 : decode cL_within 53 = .ok (.iaload, 1) := by decide +kernel
theorem dL_within_54 : decode cL_within 54 = .ok (.aload_n 0, 1) := by decide +kernel
theorem dL_within_55 : decode cL_within 55 = .ok (.bipush 7, 2) := by decide +kernel
theorem dL_within_57 : decode cL_within 57 = .ok (.iaload, 1) := by decide +kernel
theorem dL_within_58 : decode cL_within 58 = .ok (.iadd, 1) := by decide +kernel
theorem dL_within_59 : decode cL_within 59 = .ok (.if_icmp .ge 7, 3) := by decide +kernel
theorem dL_within_62 : decode cL_within 62 = .ok (.iconst 1, 1) := by decide +kernel
theorem dL_within_63 : decode cL_within 63 = .ok (.goto 4, 3) := by decide +kernel
theorem dL_within_66 : decode cL_within 66 = .ok (.iconst 0, 1) := by decide +kernel
theorem dL_within_67 : decode cL_within 67 = .ok (.ireturn, 1) := by decide +kernel
theorem dL_shown_0 : decode cL_shown 0 = .ok (.iconst 0, 1) := by decide +kernel
theorem dL_shown_1 : decode cL_shown 1 = .ok (.istore_n 2, 1) := by decide +kernel
theorem dL_shown_2 : decode cL_shown 2 = .ok (.iconst 0, 1) := by decide +kernel
theorem dL_shown_3 : decode cL_shown 3 = .ok (.istore_n 3, 1) := by decide +kernel
theorem dL_shown_4 : decode cL_shown 4 = .ok (.iload_n 3, 1) := by decide +kernel
theorem dL_shown_5 : decode cL_shown 5 = .ok (.aload_n 0, 1) := by decide +kernel
theorem dL_shown_6 : decode cL_shown 6 = .ok (.bipush 9, 2) := by decide +kernel
theorem dL_shown_8 : decode cL_shown 8 = .ok (.iaload, 1) := by decide +kernel
theorem dL_shown_9 : decode cL_shown 9 = .ok (.if_icmp .ge 42, 3) := by decide +kernel
theorem dL_shown_12 : decode cL_shown 12 = .ok (.iload_n 2, 1) := by decide +kernel
theorem dL_shown_13 : decode cL_shown 13 = .ok (.aload_n 0, 1) := by decide +kernel
theorem dL_shown_14 : decode cL_shown 14 = .ok (.aload_n 1, 1) := by decide +kernel
theorem dL_shown_15 : decode cL_shown 15 = .ok (.iload_n 3, 1) := by decide +kernel
theorem dL_shown_16 : decode cL_shown 16 = .ok (.invokestatic 9, 3) := by decide +kernel
theorem dL_shown_19 : decode cL_shown 19 = .ok (.ifCond .eq 23, 3) := by decide +kernel
theorem dL_shown_22 : decode cL_shown 22 = .ok (.aload_n 1, 1) := by decide +kernel
theorem dL_shown_23 : decode cL_shown 23 = .ok (.iconst 5, 1) := by decide +kernel
theorem dL_shown_24 : decode cL_shown 24 = .ok (.iload_n 3, 1) := by decide +kernel
theorem dL_shown_25 : decode cL_shown 25 = .ok (.imul, 1) := by decide +kernel
theorem dL_shown_26 : decode cL_shown 26 = .ok (.iconst 4, 1) := by decide +kernel
theorem dL_shown_27 : decode cL_shown 27 = .ok (.iadd, 1) := by decide +kernel
theorem dL_shown_28 : decode cL_shown 28 = .ok (.iaload, 1) := by decide +kernel
theorem dL_shown_29 : decode cL_shown 29 = .ok (.aload_n 0, 1) := by decide +kernel
theorem dL_shown_30 : decode cL_shown 30 = .ok (.bipush 8, 2) := by decide +kernel
theorem dL_shown_32 : decode cL_shown 32 = .ok (.iaload, 1) := by decide +kernel
theorem dL_shown_33 : decode cL_shown 33 = .ok (.if_icmp .gt 9, 3) := by decide +kernel
theorem dL_shown_36 : decode cL_shown 36 = .ok (.iconst 1, 1) := by decide +kernel
theorem dL_shown_37 : decode cL_shown 37 = .ok (.iload_n 3, 1) := by decide +kernel
theorem dL_shown_38 : decode cL_shown 38 = .ok (.ishl, 1) := by decide +kernel
theorem dL_shown_39 : decode cL_shown 39 = .ok (.goto 4, 3) := by decide +kernel
theorem dL_shown_42 : decode cL_shown 42 = .ok (.iconst 0, 1) := by decide +kernel
theorem dL_shown_43 : decode cL_shown 43 = .ok (.ior, 1) := by decide +kernel
theorem dL_shown_44 : decode cL_shown 44 = .ok (.istore_n 2, 1) := by decide +kernel
theorem dL_shown_45 : decode cL_shown 45 = .ok (.iinc 3 1, 3) := by decide +kernel
theorem dL_shown_48 : decode cL_shown 48 = .ok (.goto (-44), 3) := by decide +kernel
theorem dL_shown_51 : decode cL_shown 51 = .ok (.iload_n 2, 1) := by decide +kernel
theorem dL_shown_52 : decode cL_shown 52 = .ok (.ireturn, 1) := by decide +kernel
theorem dL_bits_0 : decode cL_bits 0 = .ok (.iconst 0, 1) := by decide +kernel
theorem dL_bits_1 : decode cL_bits 1 = .ok (.istore_n 1, 1) := by decide +kernel
theorem dL_bits_2 : decode cL_bits 2 = .ok (.iload_n 0, 1) := by decide +kernel
theorem dL_bits_3 : decode cL_bits 3 = .ok (.istore_n 2, 1) := by decide +kernel
theorem dL_bits_4 : decode cL_bits 4 = .ok (.iload_n 2, 1) := by decide +kernel
theorem dL_bits_5 : decode cL_bits 5 = .ok (.ifCond .le 15, 3) := by decide +kernel
theorem dL_bits_8 : decode cL_bits 8 = .ok (.iinc 1 1, 3) := by decide +kernel
theorem dL_bits_11 : decode cL_bits 11 = .ok (.iload_n 2, 1) := by decide +kernel
theorem dL_bits_12 : decode cL_bits 12 = .ok (.iload_n 2, 1) := by decide +kernel
theorem dL_bits_13 : decode cL_bits 13 = .ok (.iconst 1, 1) := by decide +kernel
theorem dL_bits_14 : decode cL_bits 14 = .ok (.isub, 1) := by decide +kernel
theorem dL_bits_15 : decode cL_bits 15 = .ok (.iand, 1) := by decide +kernel
theorem dL_bits_16 : decode cL_bits 16 = .ok (.istore_n 2, 1) := by decide +kernel
theorem dL_bits_17 : decode cL_bits 17 = .ok (.goto (-13), 3) := by decide +kernel
theorem dL_bits_20 : decode cL_bits 20 = .ok (.iload_n 1, 1) := by decide +kernel
theorem dL_bits_21 : decode cL_bits 21 = .ok (.ireturn, 1) := by decide +kernel
theorem dL_key_0 : decode cL_key 0 = .ok (.iconst 4, 1) := by decide +kernel
theorem dL_key_1 : decode cL_key 1 = .ok (.aload_n 0, 1) := by decide +kernel
theorem dL_key_2 : decode cL_key 2 = .ok (.bipush 8, 2) := by decide +kernel
theorem dL_key_4 : decode cL_key 4 = .ok (.iload_n 1, 1) := by decide +kernel
theorem dL_key_5 : decode cL_key 5 = .ok (.imul, 1) := by decide +kernel
theorem dL_key_6 : decode cL_key 6 = .ok (.iaload, 1) := by decide +kernel
theorem dL_key_7 : decode cL_key 7 = .ok (.imul, 1) := by decide +kernel
theorem dL_key_8 : decode cL_key 8 = .ok (.iload_n 1, 1) := by decide +kernel
theorem dL_key_9 : decode cL_key 9 = .ok (.iadd, 1) := by decide +kernel
theorem dL_key_10 : decode cL_key 10 = .ok (.ireturn, 1) := by decide +kernel
theorem dL_block_0 : decode cL_block 0 = .ok (.aload_n 0, 1) := by decide +kernel
theorem dL_block_1 : decode cL_block 1 = .ok (.iload_n 2, 1) := by decide +kernel
theorem dL_block_2 : decode cL_block 2 = .ok (.invokestatic 15, 3) := by decide +kernel
theorem dL_block_5 : decode cL_block 5 = .ok (.istore_n 3, 1) := by decide +kernel
theorem dL_block_6 : decode cL_block 6 = .ok (.iconst 0, 1) := by decide +kernel
theorem dL_block_7 : decode cL_block 7 = .ok (.istore 4, 2) := by decide +kernel
theorem dL_block_9 : decode cL_block 9 = .ok (.iload 4, 2) := by decide +kernel
theorem dL_block_11 : decode cL_block 11 = .ok (.iconst 4, 1) := by decide +kernel
theorem dL_block_12 : decode cL_block 12 = .ok (.if_icmp .ge 83, 3) := by decide +kernel
theorem dL_block_15 : decode cL_block 15 = .ok (.iload_n 1, 1) := by decide +kernel
theorem dL_block_16 : decode cL_block 16 = .ok (.iload 4, 2) := by decide +kernel
theorem dL_block_18 : decode cL_block 18 = .ok (.ishr, 1) := by decide +kernel
theorem dL_block_19 : decode cL_block 19 = .ok (.iconst 1, 1) := by decide +kernel
theorem dL_block_20 : decode cL_block 20 = .ok (.iand, 1) := by decide +kernel
theorem dL_block_21 : decode cL_block 21 = .ok (.iconst 1, 1) := by decide +kernel
theorem dL_block_22 : decode cL_block 22 = .ok (.if_icmp .ne 38, 3) := by decide +kernel
theorem dL_block_25 : decode cL_block 25 = .ok (.aload_n 0, 1) := by decide +kernel
theorem dL_block_26 : decode cL_block 26 = .ok (.bipush 8, 2) := by decide +kernel
theorem dL_block_28 : decode cL_block 28 = .ok (.iload_n 2, 1) := by decide +kernel
theorem dL_block_29 : decode cL_block 29 = .ok (.imul, 1) := by decide +kernel
theorem dL_block_30 : decode cL_block 30 = .ok (.iconst 1, 1) := by decide +kernel
theorem dL_block_31 : decode cL_block 31 = .ok (.iadd, 1) := by decide +kernel
theorem dL_block_32 : decode cL_block 32 = .ok (.iaload, 1) := by decide +kernel
theorem dL_block_33 : decode cL_block 33 = .ok (.ifCond .lt 27, 3) := by decide +kernel
theorem dL_block_36 : decode cL_block 36 = .ok (.aload_n 0, 1) := by decide +kernel
theorem dL_block_37 : decode cL_block 37 = .ok (.bipush 8, 2) := by decide +kernel
theorem dL_block_39 : decode cL_block 39 = .ok (.iload 4, 2) := by decide +kernel
theorem dL_block_41 : decode cL_block 41 = .ok (.imul, 1) := by decide +kernel
theorem dL_block_42 : decode cL_block 42 = .ok (.iconst 1, 1) := by decide +kernel
theorem dL_block_43 : decode cL_block 43 = .ok (.iadd, 1) := by decide +kernel
theorem dL_block_44 : decode cL_block 44 = .ok (.iaload, 1) := by decide +kernel
theorem dL_block_45 : decode cL_block 45 = .ok (.aload_n 0, 1) := by decide +kernel
theorem dL_block_46 : decode cL_block 46 = .ok (.bipush 8, 2) := by decide +kernel
theorem dL_block_48 : decode cL_block 48 = .ok (.iload_n 2, 1) := by decide +kernel
theorem dL_block_49 : decode cL_block 49 = .ok (.imul, 1) := by decide +kernel
theorem dL_block_50 : decode cL_block 50 = .ok (.iconst 1, 1) := by decide +kernel
theorem dL_block_51 : decode cL_block 51 = .ok (.iadd, 1) := by decide +kernel
theorem dL_block_52 : decode cL_block 52 = .ok (.iaload, 1) := by decide +kernel
theorem dL_block_53 : decode cL_block 53 = .ok (.if_icmp .ne 7, 3) := by decide +kernel
theorem dL_block_56 : decode cL_block 56 = .ok (.iconst 1, 1) := by decide +kernel
theorem dL_block_57 : decode cL_block 57 = .ok (.goto 4, 3) := by decide +kernel
theorem dL_block_60 : decode cL_block 60 = .ok (.iconst 0, 1) := by decide +kernel
theorem dL_block_61 : decode cL_block 61 = .ok (.istore 5, 2) := by decide +kernel
theorem dL_block_63 : decode cL_block 63 = .ok (.iload 5, 2) := by decide +kernel
theorem dL_block_65 : decode cL_block 65 = .ok (.ifCond .eq 22, 3) := by decide +kernel
theorem dL_block_68 : decode cL_block 68 = .ok (.aload_n 0, 1) := by decide +kernel
theorem dL_block_69 : decode cL_block 69 = .ok (.iload 4, 2) := by decide +kernel
theorem dL_block_71 : decode cL_block 71 = .ok (.invokestatic 15, 3) := by decide +kernel
theorem dL_block_74 : decode cL_block 74 = .ok (.iload_n 3, 1) := by decide +kernel
theorem dL_block_75 : decode cL_block 75 = .ok (.if_icmp .ge 12, 3) := by decide +kernel
theorem dL_block_78 : decode cL_block 78 = .ok (.aload_n 0, 1) := by decide +kernel
theorem dL_block_79 : decode cL_block 79 = .ok (.iload 4, 2) := by decide +kernel
theorem dL_block_81 : decode cL_block 81 = .ok (.invokestatic 15, 3) := by decide +kernel
theorem dL_block_84 : decode cL_block 84 = .ok (.goto 4, 3) := by decide +kernel
theorem dL_block_87 : decode cL_block 87 = .ok (.iload_n 3, 1) := by decide +kernel
theorem dL_block_88 : decode cL_block 88 = .ok (.istore_n 3, 1) := by decide +kernel
theorem dL_block_89 : decode cL_block 89 = .ok (.iinc 4 1, 3) := by decide +kernel
theorem dL_block_92 : decode cL_block 92 = .ok (.goto (-83), 3) := by decide +kernel
theorem dL_block_95 : decode cL_block 95 = .ok (.iload_n 3, 1) := by decide +kernel
theorem dL_block_96 : decode cL_block 96 = .ok (.ireturn, 1) := by decide +kernel
theorem dL_member_0 : decode cL_member 0 = .ok (.iconst 0, 1) := by decide +kernel
theorem dL_member_1 : decode cL_member 1 = .ok (.istore_n 3, 1) := by decide +kernel
theorem dL_member_2 : decode cL_member 2 = .ok (.iconst 0, 1) := by decide +kernel
theorem dL_member_3 : decode cL_member 3 = .ok (.istore 4, 2) := by decide +kernel
theorem dL_member_5 : decode cL_member 5 = .ok (.iload 4, 2) := by decide +kernel
theorem dL_member_7 : decode cL_member 7 = .ok (.iconst 4, 1) := by decide +kernel
theorem dL_member_8 : decode cL_member 8 = .ok (.if_icmp .ge 40, 3) := by decide +kernel
theorem dL_member_11 : decode cL_member 11 = .ok (.iload_n 3, 1) := by decide +kernel
theorem dL_member_12 : decode cL_member 12 = .ok (.aload_n 0, 1) := by decide +kernel
theorem dL_member_13 : decode cL_member 13 = .ok (.bipush 8, 2) := by decide +kernel
theorem dL_member_15 : decode cL_member 15 = .ok (.iload 4, 2) := by decide +kernel
theorem dL_member_17 : decode cL_member 17 = .ok (.imul, 1) := by decide +kernel
theorem dL_member_18 : decode cL_member 18 = .ok (.iconst 1, 1) := by decide +kernel
theorem dL_member_19 : decode cL_member 19 = .ok (.iadd, 1) := by decide +kernel
theorem dL_member_20 : decode cL_member 20 = .ok (.iaload, 1) := by decide +kernel
theorem dL_member_21 : decode cL_member 21 = .ok (.iload_n 2, 1) := by decide +kernel
theorem dL_member_22 : decode cL_member 22 = .ok (.if_icmp .ne 17, 3) := by decide +kernel
theorem dL_member_25 : decode cL_member 25 = .ok (.iload_n 1, 1) := by decide +kernel
theorem dL_member_26 : decode cL_member 26 = .ok (.iload 4, 2) := by decide +kernel
theorem dL_member_28 : decode cL_member 28 = .ok (.ishr, 1) := by decide +kernel
theorem dL_member_29 : decode cL_member 29 = .ok (.iconst 1, 1) := by decide +kernel
theorem dL_member_30 : decode cL_member 30 = .ok (.iand, 1) := by decide +kernel
theorem dL_member_31 : decode cL_member 31 = .ok (.iconst 1, 1) := by decide +kernel
theorem dL_member_32 : decode cL_member 32 = .ok (.if_icmp .ne 7, 3) := by decide +kernel
theorem dL_member_35 : decode cL_member 35 = .ok (.iconst 1, 1) := by decide +kernel
theorem dL_member_36 : decode cL_member 36 = .ok (.goto 4, 3) := by decide +kernel
theorem dL_member_39 : decode cL_member 39 = .ok (.iconst 0, 1) := by decide +kernel
theorem dL_member_40 : decode cL_member 40 = .ok (.iadd, 1) := by decide +kernel
theorem dL_member_41 : decode cL_member 41 = .ok (.istore_n 3, 1) := by decide +kernel
theorem dL_member_42 : decode cL_member 42 = .ok (.iinc 4 1, 3) := by decide +kernel
theorem dL_member_45 : decode cL_member 45 = .ok (.goto (-40), 3) := by decide +kernel
theorem dL_member_48 : decode cL_member 48 = .ok (.iload_n 3, 1) := by decide +kernel
theorem dL_member_49 : decode cL_member 49 = .ok (.ireturn, 1) := by decide +kernel
theorem dL_code_0 : decode cL_code 0 = .ok (.iload_n 0, 1) := by decide +kernel
theorem dL_code_1 : decode cL_code 1 = .ok (.bipush 20, 2) := by decide +kernel
theorem dL_code_3 : decode cL_code 3 = .ok (.imul, 1) := by decide +kernel
theorem dL_code_4 : decode cL_code 4 = .ok (.iload_n 1, 1) := by decide +kernel
theorem dL_code_5 : decode cL_code 5 = .ok (.iadd, 1) := by decide +kernel
theorem dL_code_6 : decode cL_code 6 = .ok (.iconst 1, 1) := by decide +kernel
theorem dL_code_7 : decode cL_code 7 = .ok (.iadd, 1) := by decide +kernel
theorem dL_code_8 : decode cL_code 8 = .ok (.bipush 10, 2) := by decide +kernel
theorem dL_code_10 : decode cL_code 10 = .ok (.imul, 1) := by decide +kernel
theorem dL_code_11 : decode cL_code 11 = .ok (.iload_n 2, 1) := by decide +kernel
theorem dL_code_12 : decode cL_code 12 = .ok (.iadd, 1) := by decide +kernel
theorem dL_code_13 : decode cL_code 13 = .ok (.iconst 1, 1) := by decide +kernel
theorem dL_code_14 : decode cL_code 14 = .ok (.iadd, 1) := by decide +kernel
theorem dL_code_15 : decode cL_code 15 = .ok (.bipush 10, 2) := by decide +kernel
theorem dL_code_17 : decode cL_code 17 = .ok (.imul, 1) := by decide +kernel
theorem dL_code_18 : decode cL_code 18 = .ok (.iload_n 3, 1) := by decide +kernel
theorem dL_code_19 : decode cL_code 19 = .ok (.iadd, 1) := by decide +kernel
theorem dL_code_20 : decode cL_code 20 = .ok (.iconst 1, 1) := by decide +kernel
theorem dL_code_21 : decode cL_code 21 = .ok (.iadd, 1) := by decide +kernel
theorem dL_code_22 : decode cL_code 22 = .ok (.bipush 10, 2) := by decide +kernel
theorem dL_code_24 : decode cL_code 24 = .ok (.imul, 1) := by decide +kernel
theorem dL_code_25 : decode cL_code 25 = .ok (.iload 4, 2) := by decide +kernel
theorem dL_code_27 : decode cL_code 27 = .ok (.iadd, 1) := by decide +kernel
theorem dL_code_28 : decode cL_code 28 = .ok (.iconst 1, 1) := by decide +kernel
theorem dL_code_29 : decode cL_code 29 = .ok (.iadd, 1) := by decide +kernel
theorem dL_code_30 : decode cL_code 30 = .ok (.ireturn, 1) := by decide +kernel
theorem dL_signs_0 : decode cL_signs 0 = .ok (.iconst 0, 1) := by decide +kernel
theorem dL_signs_1 : decode cL_signs 1 = .ok (.istore 6, 2) := by decide +kernel
theorem dL_signs_3 : decode cL_signs 3 = .ok (.iconst 0, 1) := by decide +kernel
theorem dL_signs_4 : decode cL_signs 4 = .ok (.istore 7, 2) := by decide +kernel
theorem dL_signs_6 : decode cL_signs 6 = .ok (.iload 7, 2) := by decide +kernel
theorem dL_signs_8 : decode cL_signs 8 = .ok (.bipush 12, 2) := by decide +kernel
theorem dL_signs_10 : decode cL_signs 10 = .ok (.if_icmp .ge 63, 3) := by decide +kernel
theorem dL_signs_13 : decode cL_signs 13 = .ok (.iload 6, 2) := by decide +kernel
theorem dL_signs_15 : decode cL_signs 15 = .ok (.iload_n 2, 1) := by decide +kernel
theorem dL_signs_16 : decode cL_signs 16 = .ok (.iload 7, 2) := by decide +kernel
theorem dL_signs_18 : decode cL_signs 18 = .ok (.ishr, 1) := by decide +kernel
theorem dL_signs_19 : decode cL_signs 19 = .ok (.iconst 1, 1) := by decide +kernel
theorem dL_signs_20 : decode cL_signs 20 = .ok (.iand, 1) := by decide +kernel
theorem dL_signs_21 : decode cL_signs 21 = .ok (.iconst 1, 1) := by decide +kernel
theorem dL_signs_22 : decode cL_signs 22 = .ok (.if_icmp .ne 41, 3) := by decide +kernel
theorem dL_signs_25 : decode cL_signs 25 = .ok (.aload_n 1, 1) := by decide +kernel
theorem dL_signs_26 : decode cL_signs 26 = .ok (.iconst 5, 1) := by decide +kernel
theorem dL_signs_27 : decode cL_signs 27 = .ok (.iload 7, 2) := by decide +kernel
theorem dL_signs_29 : decode cL_signs 29 = .ok (.imul, 1) := by decide +kernel
theorem dL_signs_30 : decode cL_signs 30 = .ok (.iaload, 1) := by decide +kernel
theorem dL_signs_31 : decode cL_signs 31 = .ok (.iload_n 3, 1) := by decide +kernel
theorem dL_signs_32 : decode cL_signs 32 = .ok (.if_icmp .ne 31, 3) := by decide +kernel
theorem dL_signs_35 : decode cL_signs 35 = .ok (.aload_n 0, 1) := by decide +kernel
theorem dL_signs_36 : decode cL_signs 36 = .ok (.aload_n 1, 1) := by decide +kernel
theorem dL_signs_37 : decode cL_signs 37 = .ok (.iload 7, 2) := by decide +kernel
theorem dL_signs_39 : decode cL_signs 39 = .ok (.invokestatic 19, 3) := by decide +kernel
theorem dL_signs_42 : decode cL_signs 42 = .ok (.iload 4, 2) := by decide +kernel
theorem dL_signs_44 : decode cL_signs 44 = .ok (.if_icmp .lt 19, 3) := by decide +kernel
theorem dL_signs_47 : decode cL_signs 47 = .ok (.aload_n 0, 1) := by decide +kernel
theorem dL_signs_48 : decode cL_signs 48 = .ok (.aload_n 1, 1) := by decide +kernel
theorem dL_signs_49 : decode cL_signs 49 = .ok (.iload 7, 2) := by decide +kernel
theorem dL_signs_51 : decode cL_signs 51 = .ok (.invokestatic 19, 3) := by decide +kernel
theorem dL_signs_54 : decode cL_signs 54 = .ok (.iload 5, 2) := by decide +kernel
theorem dL_signs_56 : decode cL_signs 56 = .ok (.if_icmp .gt 7, 3) := by decide +kernel
theorem dL_signs_59 : decode cL_signs 59 = .ok (.iconst 1, 1) := by decide +kernel
theorem dL_signs_60 : decode cL_signs 60 = .ok (.goto 4, 3) := by decide +kernel
theorem dL_signs_63 : decode cL_signs 63 = .ok (.iconst 0, 1) := by decide +kernel
theorem dL_signs_64 : decode cL_signs 64 = .ok (.iadd, 1) := by decide +kernel
theorem dL_signs_65 : decode cL_signs 65 = .ok (.istore 6, 2) := by decide +kernel
theorem dL_signs_67 : decode cL_signs 67 = .ok (.iinc 7 1, 3) := by decide +kernel
theorem dL_signs_70 : decode cL_signs 70 = .ok (.goto (-64), 3) := by decide +kernel
theorem dL_signs_73 : decode cL_signs 73 = .ok (.iload 6, 2) := by decide +kernel
theorem dL_signs_75 : decode cL_signs 75 = .ok (.ireturn, 1) := by decide +kernel
theorem dL_linesOf_0 : decode cL_linesOf 0 = .ok (.bipush 12, 2) := by decide +kernel
theorem dL_linesOf_2 : decode cL_linesOf 2 = .ok (.newarray .int, 2) := by decide +kernel
theorem dL_linesOf_4 : decode cL_linesOf 4 = .ok (.astore 6, 2) := by decide +kernel
theorem dL_linesOf_6 : decode cL_linesOf 6 = .ok (.iconst 0, 1) := by decide +kernel
theorem dL_linesOf_7 : decode cL_linesOf 7 = .ok (.istore 7, 2) := by decide +kernel
theorem dL_linesOf_9 : decode cL_linesOf 9 = .ok (.iconst 0, 1) := by decide +kernel
theorem dL_linesOf_10 : decode cL_linesOf 10 = .ok (.istore 8, 2) := by decide +kernel
theorem dL_linesOf_12 : decode cL_linesOf 12 = .ok (.iload 8, 2) := by decide +kernel
theorem dL_linesOf_14 : decode cL_linesOf 14 = .ok (.bipush 6, 2) := by decide +kernel
theorem dL_linesOf_16 : decode cL_linesOf 16 = .ok (.if_icmp .ge 49, 3) := by decide +kernel
theorem dL_linesOf_19 : decode cL_linesOf 19 = .ok (.aload_n 1, 1) := by decide +kernel
theorem dL_linesOf_20 : decode cL_linesOf 20 = .ok (.aload_n 2, 1) := by decide +kernel
theorem dL_linesOf_21 : decode cL_linesOf 21 = .ok (.aload_n 3, 1) := by decide +kernel
theorem dL_linesOf_22 : decode cL_linesOf 22 = .ok (.iconst 3, 1) := by decide +kernel
theorem dL_linesOf_23 : decode cL_linesOf 23 = .ok (.iaload, 1) := by decide +kernel
theorem dL_linesOf_24 : decode cL_linesOf 24 = .ok (.iload 5, 2) := by decide +kernel
theorem dL_linesOf_26 : decode cL_linesOf 26 = .ok (.iload 8, 2) := by decide +kernel
theorem dL_linesOf_28 : decode cL_linesOf 28 = .ok (.iload 8, 2) := by decide +kernel
theorem dL_linesOf_30 : decode cL_linesOf 30 = .ok (.invokestatic 23, 3) := by decide +kernel
theorem dL_linesOf_33 : decode cL_linesOf 33 = .ok (.ifCond .le 26, 3) := by decide +kernel
theorem dL_linesOf_36 : decode cL_linesOf 36 = .ok (.aload 6, 2) := by decide +kernel
theorem dL_linesOf_38 : decode cL_linesOf 38 = .ok (.iconst 2, 1) := by decide +kernel
theorem dL_linesOf_39 : decode cL_linesOf 39 = .ok (.iload 7, 2) := by decide +kernel
theorem dL_linesOf_41 : decode cL_linesOf 41 = .ok (.imul, 1) := by decide +kernel
theorem dL_linesOf_42 : decode cL_linesOf 42 = .ok (.iload 8, 2) := by decide +kernel
theorem dL_linesOf_44 : decode cL_linesOf 44 = .ok (.iastore, 1) := by decide +kernel
theorem dL_linesOf_45 : decode cL_linesOf 45 = .ok (.aload 6, 2) := by decide +kernel
theorem dL_linesOf_47 : decode cL_linesOf 47 = .ok (.iconst 2, 1) := by decide +kernel
theorem dL_linesOf_48 : decode cL_linesOf 48 = .ok (.iload 7, 2) := by decide +kernel
theorem dL_linesOf_50 : decode cL_linesOf 50 = .ok (.imul, 1) := by decide +kernel
theorem dL_linesOf_51 : decode cL_linesOf 51 = .ok (.iconst 1, 1) := by decide +kernel
theorem dL_linesOf_52 : decode cL_linesOf 52 = .ok (.iadd, 1) := by decide +kernel
theorem dL_linesOf_53 : decode cL_linesOf 53 = .ok (.iload 8, 2) := by decide +kernel
theorem dL_linesOf_55 : decode cL_linesOf 55 = .ok (.iastore, 1) := by decide +kernel
theorem dL_linesOf_56 : decode cL_linesOf 56 = .ok (.iinc 7 1, 3) := by decide +kernel
theorem dL_linesOf_59 : decode cL_linesOf 59 = .ok (.iinc 8 1, 3) := by decide +kernel
theorem dL_linesOf_62 : decode cL_linesOf 62 = .ok (.goto (-50), 3) := by decide +kernel
theorem dL_linesOf_65 : decode cL_linesOf 65 = .ok (.iload 7, 2) := by decide +kernel
theorem dL_linesOf_67 : decode cL_linesOf 67 = .ok (.aload_n 0, 1) := by decide +kernel
theorem dL_linesOf_68 : decode cL_linesOf 68 = .ok (.iconst 0, 1) := by decide +kernel
theorem dL_linesOf_69 : decode cL_linesOf 69 = .ok (.iaload, 1) := by decide +kernel
theorem dL_linesOf_70 : decode cL_linesOf 70 = .ok (.if_icmp .le 169, 3) := by decide +kernel
theorem dL_linesOf_73 : decode cL_linesOf 73 = .ok (.iload 7, 2) := by decide +kernel
theorem dL_linesOf_75 : decode cL_linesOf 75 = .ok (.iconst 2, 1) := by decide +kernel
theorem dL_linesOf_76 : decode cL_linesOf 76 = .ok (.isub, 1) := by decide +kernel
theorem dL_linesOf_77 : decode cL_linesOf 77 = .ok (.istore 8, 2) := by decide +kernel
theorem dL_linesOf_79 : decode cL_linesOf 79 = .ok (.iload 7, 2) := by decide +kernel
theorem dL_linesOf_81 : decode cL_linesOf 81 = .ok (.iconst 3, 1) := by decide +kernel
theorem dL_linesOf_82 : decode cL_linesOf 82 = .ok (.isub, 1) := by decide +kernel
theorem dL_linesOf_83 : decode cL_linesOf 83 = .ok (.istore 9, 2) := by decide +kernel
theorem dL_linesOf_85 : decode cL_linesOf 85 = .ok (.iload 9, 2) := by decide +kernel
theorem dL_linesOf_87 : decode cL_linesOf 87 = .ok (.ifCond .lt 73, 3) := by decide +kernel
theorem dL_linesOf_90 : decode cL_linesOf 90 = .ok (.aload_n 1, 1) := by decide +kernel
theorem dL_linesOf_91 : decode cL_linesOf 91 = .ok (.aload_n 2, 1) := by decide +kernel
theorem dL_linesOf_92 : decode cL_linesOf 92 = .ok (.aload_n 3, 1) := by decide +kernel
theorem dL_linesOf_93 : decode cL_linesOf 93 = .ok (.iconst 3, 1) := by decide +kernel
theorem dL_linesOf_94 : decode cL_linesOf 94 = .ok (.iaload, 1) := by decide +kernel
theorem dL_linesOf_95 : decode cL_linesOf 95 = .ok (.iload 5, 2) := by decide +kernel
theorem dL_linesOf_97 : decode cL_linesOf 97 = .ok (.aload 6, 2) := by decide +kernel
theorem dL_linesOf_99 : decode cL_linesOf 99 = .ok (.iconst 2, 1) := by decide +kernel
theorem dL_linesOf_100 : decode cL_linesOf 100 = .ok (.iload 9, 2) := by decide +kernel
theorem dL_linesOf_102 : decode cL_linesOf 102 = .ok (.imul, 1) := by decide +kernel
theorem dL_linesOf_103 : decode cL_linesOf 103 = .ok (.iaload, 1) := by decide +kernel
theorem dL_linesOf_104 : decode cL_linesOf 104 = .ok (.aload 6, 2) := by decide +kernel
theorem dL_linesOf_106 : decode cL_linesOf 106 = .ok (.iconst 2, 1) := by decide +kernel
theorem dL_linesOf_107 : decode cL_linesOf 107 = .ok (.iload 9, 2) := by decide +kernel
theorem dL_linesOf_109 : decode cL_linesOf 109 = .ok (.imul, 1) := by decide +kernel
theorem dL_linesOf_110 : decode cL_linesOf 110 = .ok (.iconst 3, 1) := by decide +kernel
theorem dL_linesOf_111 : decode cL_linesOf 111 = .ok (.iadd, 1) := by decide +kernel
theorem dL_linesOf_112 : decode cL_linesOf 112 = .ok (.iaload, 1) := by decide +kernel
theorem dL_linesOf_113 : decode cL_linesOf 113 = .ok (.invokestatic 23, 3) := by decide +kernel
theorem dL_linesOf_116 : decode cL_linesOf 116 = .ok (.aload_n 1, 1) := by decide +kernel
theorem dL_linesOf_117 : decode cL_linesOf 117 = .ok (.aload_n 2, 1) := by decide +kernel
theorem dL_linesOf_118 : decode cL_linesOf 118 = .ok (.aload_n 3, 1) := by decide +kernel
theorem dL_linesOf_119 : decode cL_linesOf 119 = .ok (.iconst 3, 1) := by decide +kernel
theorem dL_linesOf_120 : decode cL_linesOf 120 = .ok (.iaload, 1) := by decide +kernel
theorem dL_linesOf_121 : decode cL_linesOf 121 = .ok (.iload 5, 2) := by decide +kernel
theorem dL_linesOf_123 : decode cL_linesOf 123 = .ok (.aload 6, 2) := by decide +kernel
theorem dL_linesOf_125 : decode cL_linesOf 125 = .ok (.iconst 2, 1) := by decide +kernel
theorem dL_linesOf_126 : decode cL_linesOf 126 = .ok (.iload 8, 2) := by decide +kernel
theorem dL_linesOf_128 : decode cL_linesOf 128 = .ok (.imul, 1) := by decide +kernel
theorem dL_linesOf_129 : decode cL_linesOf 129 = .ok (.iaload, 1) := by decide +kernel
theorem dL_linesOf_130 : decode cL_linesOf 130 = .ok (.aload 6, 2) := by decide +kernel
theorem dL_linesOf_132 : decode cL_linesOf 132 = .ok (.iconst 2, 1) := by decide +kernel
theorem dL_linesOf_133 : decode cL_linesOf 133 = .ok (.iload 8, 2) := by decide +kernel
theorem dL_linesOf_135 : decode cL_linesOf 135 = .ok (.imul, 1) := by decide +kernel
theorem dL_linesOf_136 : decode cL_linesOf 136 = .ok (.iconst 3, 1) := by decide +kernel
theorem dL_linesOf_137 : decode cL_linesOf 137 = .ok (.iadd, 1) := by decide +kernel
theorem dL_linesOf_138 : decode cL_linesOf 138 = .ok (.iaload, 1) := by decide +kernel
theorem dL_linesOf_139 : decode cL_linesOf 139 = .ok (.invokestatic 23, 3) := by decide +kernel
theorem dL_linesOf_142 : decode cL_linesOf 142 = .ok (.if_icmp .gt 8, 3) := by decide +kernel
theorem dL_linesOf_145 : decode cL_linesOf 145 = .ok (.iload 9, 2) := by decide +kernel
theorem dL_linesOf_147 : decode cL_linesOf 147 = .ok (.goto 5, 3) := by decide +kernel
theorem dL_linesOf_150 : decode cL_linesOf 150 = .ok (.iload 8, 2) := by decide +kernel
theorem dL_linesOf_152 : decode cL_linesOf 152 = .ok (.istore 8, 2) := by decide +kernel
theorem dL_linesOf_154 : decode cL_linesOf 154 = .ok (.iinc 9 (-1), 3) := by decide +kernel
theorem dL_linesOf_157 : decode cL_linesOf 157 = .ok (.goto (-72), 3) := by decide +kernel
theorem dL_linesOf_160 : decode cL_linesOf 160 = .ok (.aload 6, 2) := by decide +kernel
theorem dL_linesOf_162 : decode cL_linesOf 162 = .ok (.iconst 2, 1) := by decide +kernel
theorem dL_linesOf_163 : decode cL_linesOf 163 = .ok (.iload 8, 2) := by decide +kernel
theorem dL_linesOf_165 : decode cL_linesOf 165 = .ok (.imul, 1) := by decide +kernel
theorem dL_linesOf_166 : decode cL_linesOf 166 = .ok (.iconst 1, 1) := by decide +kernel
theorem dL_linesOf_167 : decode cL_linesOf 167 = .ok (.iadd, 1) := by decide +kernel
theorem dL_linesOf_168 : decode cL_linesOf 168 = .ok (.aload 6, 2) := by decide +kernel
theorem dL_linesOf_170 : decode cL_linesOf 170 = .ok (.iconst 2, 1) := by decide +kernel
theorem dL_linesOf_171 : decode cL_linesOf 171 = .ok (.iload 8, 2) := by decide +kernel
theorem dL_linesOf_173 : decode cL_linesOf 173 = .ok (.imul, 1) := by decide +kernel
theorem dL_linesOf_174 : decode cL_linesOf 174 = .ok (.iconst 3, 1) := by decide +kernel
theorem dL_linesOf_175 : decode cL_linesOf 175 = .ok (.iadd, 1) := by decide +kernel
theorem dL_linesOf_176 : decode cL_linesOf 176 = .ok (.iaload, 1) := by decide +kernel
theorem dL_linesOf_177 : decode cL_linesOf 177 = .ok (.iastore, 1) := by decide +kernel
theorem dL_linesOf_178 : decode cL_linesOf 178 = .ok (.iload 8, 2) := by decide +kernel
theorem dL_linesOf_180 : decode cL_linesOf 180 = .ok (.iconst 1, 1) := by decide +kernel
theorem dL_linesOf_181 : decode cL_linesOf 181 = .ok (.iadd, 1) := by decide +kernel
theorem dL_linesOf_182 : decode cL_linesOf 182 = .ok (.istore 9, 2) := by decide +kernel
theorem dL_linesOf_184 : decode cL_linesOf 184 = .ok (.iload 9, 2) := by decide +kernel
theorem dL_linesOf_186 : decode cL_linesOf 186 = .ok (.iconst 1, 1) := by decide +kernel
theorem dL_linesOf_187 : decode cL_linesOf 187 = .ok (.iadd, 1) := by decide +kernel
theorem dL_linesOf_188 : decode cL_linesOf 188 = .ok (.iload 7, 2) := by decide +kernel
theorem dL_linesOf_190 : decode cL_linesOf 190 = .ok (.if_icmp .ge 43, 3) := by decide +kernel
theorem dL_linesOf_193 : decode cL_linesOf 193 = .ok (.aload 6, 2) := by decide +kernel
theorem dL_linesOf_195 : decode cL_linesOf 195 = .ok (.iconst 2, 1) := by decide +kernel
theorem dL_linesOf_196 : decode cL_linesOf 196 = .ok (.iload 9, 2) := by decide +kernel
theorem dL_linesOf_198 : decode cL_linesOf 198 = .ok (.imul, 1) := by decide +kernel
theorem dL_linesOf_199 : decode cL_linesOf 199 = .ok (.aload 6, 2) := by decide +kernel
theorem dL_linesOf_201 : decode cL_linesOf 201 = .ok (.iconst 2, 1) := by decide +kernel
theorem dL_linesOf_202 : decode cL_linesOf 202 = .ok (.iload 9, 2) := by decide +kernel
theorem dL_linesOf_204 : decode cL_linesOf 204 = .ok (.imul, 1) := by decide +kernel
theorem dL_linesOf_205 : decode cL_linesOf 205 = .ok (.iconst 2, 1) := by decide +kernel
theorem dL_linesOf_206 : decode cL_linesOf 206 = .ok (.iadd, 1) := by decide +kernel
theorem dL_linesOf_207 : decode cL_linesOf 207 = .ok (.iaload, 1) := by decide +kernel
theorem dL_linesOf_208 : decode cL_linesOf 208 = .ok (.iastore, 1) := by decide +kernel
theorem dL_linesOf_209 : decode cL_linesOf 209 = .ok (.aload 6, 2) := by decide +kernel
theorem dL_linesOf_211 : decode cL_linesOf 211 = .ok (.iconst 2, 1) := by decide +kernel
theorem dL_linesOf_212 : decode cL_linesOf 212 = .ok (.iload 9, 2) := by decide +kernel
theorem dL_linesOf_214 : decode cL_linesOf 214 = .ok (.imul, 1) := by decide +kernel
theorem dL_linesOf_215 : decode cL_linesOf 215 = .ok (.iconst 1, 1) := by decide +kernel
theorem dL_linesOf_216 : decode cL_linesOf 216 = .ok (.iadd, 1) := by decide +kernel
theorem dL_linesOf_217 : decode cL_linesOf 217 = .ok (.aload 6, 2) := by decide +kernel
theorem dL_linesOf_219 : decode cL_linesOf 219 = .ok (.iconst 2, 1) := by decide +kernel
theorem dL_linesOf_220 : decode cL_linesOf 220 = .ok (.iload 9, 2) := by decide +kernel
theorem dL_linesOf_222 : decode cL_linesOf 222 = .ok (.imul, 1) := by decide +kernel
theorem dL_linesOf_223 : decode cL_linesOf 223 = .ok (.iconst 3, 1) := by decide +kernel
theorem dL_linesOf_224 : decode cL_linesOf 224 = .ok (.iadd, 1) := by decide +kernel
theorem dL_linesOf_225 : decode cL_linesOf 225 = .ok (.iaload, 1) := by decide +kernel
theorem dL_linesOf_226 : decode cL_linesOf 226 = .ok (.iastore, 1) := by decide +kernel
theorem dL_linesOf_227 : decode cL_linesOf 227 = .ok (.iinc 9 1, 3) := by decide +kernel
theorem dL_linesOf_230 : decode cL_linesOf 230 = .ok (.goto (-46), 3) := by decide +kernel
theorem dL_linesOf_233 : decode cL_linesOf 233 = .ok (.iinc 7 (-1), 3) := by decide +kernel
theorem dL_linesOf_236 : decode cL_linesOf 236 = .ok (.goto (-171), 3) := by decide +kernel
theorem dL_linesOf_239 : decode cL_linesOf 239 = .ok (.iconst 0, 1) := by decide +kernel
theorem dL_linesOf_240 : decode cL_linesOf 240 = .ok (.istore 8, 2) := by decide +kernel
theorem dL_linesOf_242 : decode cL_linesOf 242 = .ok (.iload 8, 2) := by decide +kernel
theorem dL_linesOf_244 : decode cL_linesOf 244 = .ok (.iload 7, 2) := by decide +kernel
theorem dL_linesOf_246 : decode cL_linesOf 246 = .ok (.if_icmp .ge 47, 3) := by decide +kernel
theorem dL_linesOf_249 : decode cL_linesOf 249 = .ok (.aload_n 3, 1) := by decide +kernel
theorem dL_linesOf_250 : decode cL_linesOf 250 = .ok (.iload 4, 2) := by decide +kernel
theorem dL_linesOf_252 : decode cL_linesOf 252 = .ok (.iload 8, 2) := by decide +kernel
theorem dL_linesOf_254 : decode cL_linesOf 254 = .ok (.iadd, 1) := by decide +kernel
theorem dL_linesOf_255 : decode cL_linesOf 255 = .ok (.iconst 0, 1) := by decide +kernel
theorem dL_linesOf_256 : decode cL_linesOf 256 = .ok (.iload 5, 2) := by decide +kernel
theorem dL_linesOf_258 : decode cL_linesOf 258 = .ok (.aload_n 1, 1) := by decide +kernel
theorem dL_linesOf_259 : decode cL_linesOf 259 = .ok (.bipush 8, 2) := by decide +kernel
theorem dL_linesOf_261 : decode cL_linesOf 261 = .ok (.iload 5, 2) := by decide +kernel
theorem dL_linesOf_263 : decode cL_linesOf 263 = .ok (.imul, 1) := by decide +kernel
theorem dL_linesOf_264 : decode cL_linesOf 264 = .ok (.iconst 1, 1) := by decide +kernel
theorem dL_linesOf_265 : decode cL_linesOf 265 = .ok (.iadd, 1) := by decide +kernel
theorem dL_linesOf_266 : decode cL_linesOf 266 = .ok (.iaload, 1) := by decide +kernel
theorem dL_linesOf_267 : decode cL_linesOf 267 = .ok (.aload 6, 2) := by decide +kernel
theorem dL_linesOf_269 : decode cL_linesOf 269 = .ok (.iconst 2, 1) := by decide +kernel
theorem dL_linesOf_270 : decode cL_linesOf 270 = .ok (.iload 8, 2) := by decide +kernel
theorem dL_linesOf_272 : decode cL_linesOf 272 = .ok (.imul, 1) := by decide +kernel
theorem dL_linesOf_273 : decode cL_linesOf 273 = .ok (.iaload, 1) := by decide +kernel
theorem dL_linesOf_274 : decode cL_linesOf 274 = .ok (.aload 6, 2) := by decide +kernel
theorem dL_linesOf_276 : decode cL_linesOf 276 = .ok (.iconst 2, 1) := by decide +kernel
theorem dL_linesOf_277 : decode cL_linesOf 277 = .ok (.iload 8, 2) := by decide +kernel
theorem dL_linesOf_279 : decode cL_linesOf 279 = .ok (.imul, 1) := by decide +kernel
theorem dL_linesOf_280 : decode cL_linesOf 280 = .ok (.iconst 1, 1) := by decide +kernel
theorem dL_linesOf_281 : decode cL_linesOf 281 = .ok (.iadd, 1) := by decide +kernel
theorem dL_linesOf_282 : decode cL_linesOf 282 = .ok (.iaload, 1) := by decide +kernel
theorem dL_linesOf_283 : decode cL_linesOf 283 = .ok (.invokestatic 27, 3) := by decide +kernel
theorem dL_linesOf_286 : decode cL_linesOf 286 = .ok (.iastore, 1) := by decide +kernel
theorem dL_linesOf_287 : decode cL_linesOf 287 = .ok (.iinc 8 1, 3) := by decide +kernel
theorem dL_linesOf_290 : decode cL_linesOf 290 = .ok (.goto (-48), 3) := by decide +kernel
theorem dL_linesOf_293 : decode cL_linesOf 293 = .ok (.iload 7, 2) := by decide +kernel
theorem dL_linesOf_295 : decode cL_linesOf 295 = .ok (.ireturn, 1) := by decide +kernel
theorem dL_lists_0 : decode cL_lists 0 = .ok (.iconst 0, 1) := by decide +kernel
theorem dL_lists_1 : decode cL_lists 1 = .ok (.istore 4, 2) := by decide +kernel
theorem dL_lists_3 : decode cL_lists 3 = .ok (.iconst 0, 1) := by decide +kernel
theorem dL_lists_4 : decode cL_lists 4 = .ok (.istore 5, 2) := by decide +kernel
theorem dL_lists_6 : decode cL_lists 6 = .ok (.iload 5, 2) := by decide +kernel
theorem dL_lists_8 : decode cL_lists 8 = .ok (.bipush 12, 2) := by decide +kernel
theorem dL_lists_10 : decode cL_lists 10 = .ok (.if_icmp .ge 38, 3) := by decide +kernel
theorem dL_lists_13 : decode cL_lists 13 = .ok (.iload 4, 2) := by decide +kernel
theorem dL_lists_15 : decode cL_lists 15 = .ok (.aload_n 3, 1) := by decide +kernel
theorem dL_lists_16 : decode cL_lists 16 = .ok (.iconst 3, 1) := by decide +kernel
theorem dL_lists_17 : decode cL_lists 17 = .ok (.iaload, 1) := by decide +kernel
theorem dL_lists_18 : decode cL_lists 18 = .ok (.iload 5, 2) := by decide +kernel
theorem dL_lists_20 : decode cL_lists 20 = .ok (.ishr, 1) := by decide +kernel
theorem dL_lists_21 : decode cL_lists 21 = .ok (.iconst 1, 1) := by decide +kernel
theorem dL_lists_22 : decode cL_lists 22 = .ok (.iand, 1) := by decide +kernel
theorem dL_lists_23 : decode cL_lists 23 = .ok (.iconst 1, 1) := by decide +kernel
theorem dL_lists_24 : decode cL_lists 24 = .ok (.if_icmp .ne 14, 3) := by decide +kernel
theorem dL_lists_27 : decode cL_lists 27 = .ok (.iconst 1, 1) := by decide +kernel
theorem dL_lists_28 : decode cL_lists 28 = .ok (.aload_n 2, 1) := by decide +kernel
theorem dL_lists_29 : decode cL_lists 29 = .ok (.iconst 5, 1) := by decide +kernel
theorem dL_lists_30 : decode cL_lists 30 = .ok (.iload 5, 2) := by decide +kernel
theorem dL_lists_32 : decode cL_lists 32 = .ok (.imul, 1) := by decide +kernel
theorem dL_lists_33 : decode cL_lists 33 = .ok (.iaload, 1) := by decide +kernel
theorem dL_lists_34 : decode cL_lists 34 = .ok (.ishl, 1) := by decide +kernel
theorem dL_lists_35 : decode cL_lists 35 = .ok (.goto 4, 3) := by decide +kernel
theorem dL_lists_38 : decode cL_lists 38 = .ok (.iconst 0, 1) := by decide +kernel
theorem dL_lists_39 : decode cL_lists 39 = .ok (.ior, 1) := by decide +kernel
theorem dL_lists_40 : decode cL_lists 40 = .ok (.istore 4, 2) := by decide +kernel
theorem dL_lists_42 : decode cL_lists 42 = .ok (.iinc 5 1, 3) := by decide +kernel
theorem dL_lists_45 : decode cL_lists 45 = .ok (.goto (-39), 3) := by decide +kernel
theorem dL_lists_48 : decode cL_lists 48 = .ok (.aload_n 3, 1) := by decide +kernel
theorem dL_lists_49 : decode cL_lists 49 = .ok (.iconst 0, 1) := by decide +kernel
theorem dL_lists_50 : decode cL_lists 50 = .ok (.iconst 0, 1) := by decide +kernel
theorem dL_lists_51 : decode cL_lists 51 = .ok (.iastore, 1) := by decide +kernel
theorem dL_lists_52 : decode cL_lists 52 = .ok (.iconst (-1), 1) := by decide +kernel
theorem dL_lists_53 : decode cL_lists 53 = .ok (.istore 5, 2) := by decide +kernel
theorem dL_lists_55 : decode cL_lists 55 = .ok (.iconst (-1), 1) := by decide +kernel
theorem dL_lists_56 : decode cL_lists 56 = .ok (.istore 6, 2) := by decide +kernel
theorem dL_lists_58 : decode cL_lists 58 = .ok (.iload 4, 2) := by decide +kernel
theorem dL_lists_60 : decode cL_lists 60 = .ok (.invokestatic 31, 3) := by decide +kernel
theorem dL_lists_63 : decode cL_lists 63 = .ok (.istore 7, 2) := by decide +kernel
theorem dL_lists_65 : decode cL_lists 65 = .ok (.iload 7, 2) := by decide +kernel
theorem dL_lists_67 : decode cL_lists 67 = .ok (.ifCond .le 245, 3) := by decide +kernel
theorem dL_lists_70 : decode cL_lists 70 = .ok (.iconst (-1), 1) := by decide +kernel
theorem dL_lists_71 : decode cL_lists 71 = .ok (.istore 8, 2) := by decide +kernel
theorem dL_lists_73 : decode cL_lists 73 = .ok (.iconst 0, 1) := by decide +kernel
theorem dL_lists_74 : decode cL_lists 74 = .ok (.istore 9, 2) := by decide +kernel
theorem dL_lists_76 : decode cL_lists 76 = .ok (.iconst 0, 1) := by decide +kernel
theorem dL_lists_77 : decode cL_lists 77 = .ok (.istore 10, 2) := by decide +kernel
theorem dL_lists_79 : decode cL_lists 79 = .ok (.iload 10, 2) := by decide +kernel
theorem dL_lists_81 : decode cL_lists 81 = .ok (.iconst 4, 1) := by decide +kernel
theorem dL_lists_82 : decode cL_lists 82 = .ok (.if_icmp .ge 68, 3) := by decide +kernel
theorem dL_lists_85 : decode cL_lists 85 = .ok (.sipush 1000, 3) := by decide +kernel
theorem dL_lists_88 : decode cL_lists 88 = .ok (.aload_n 1, 1) := by decide +kernel
theorem dL_lists_89 : decode cL_lists 89 = .ok (.iload 4, 2) := by decide +kernel
theorem dL_lists_91 : decode cL_lists 91 = .ok (.iload 10, 2) := by decide +kernel
theorem dL_lists_93 : decode cL_lists 93 = .ok (.invokestatic 35, 3) := by decide +kernel
theorem dL_lists_96 : decode cL_lists 96 = .ok (.imul, 1) := by decide +kernel
theorem dL_lists_97 : decode cL_lists 97 = .ok (.aload_n 1, 1) := by decide +kernel
theorem dL_lists_98 : decode cL_lists 98 = .ok (.iload 10, 2) := by decide +kernel
theorem dL_lists_100 : decode cL_lists 100 = .ok (.invokestatic 15, 3) := by decide +kernel
theorem dL_lists_103 : decode cL_lists 103 = .ok (.iadd, 1) := by decide +kernel
theorem dL_lists_104 : decode cL_lists 104 = .ok (.istore 11, 2) := by decide +kernel
theorem dL_lists_106 : decode cL_lists 106 = .ok (.iload 4, 2) := by decide +kernel
theorem dL_lists_108 : decode cL_lists 108 = .ok (.iload 10, 2) := by decide +kernel
theorem dL_lists_110 : decode cL_lists 110 = .ok (.ishr, 1) := by decide +kernel
theorem dL_lists_111 : decode cL_lists 111 = .ok (.iconst 1, 1) := by decide +kernel
theorem dL_lists_112 : decode cL_lists 112 = .ok (.iand, 1) := by decide +kernel
theorem dL_lists_113 : decode cL_lists 113 = .ok (.iconst 1, 1) := by decide +kernel
theorem dL_lists_114 : decode cL_lists 114 = .ok (.if_icmp .ne 30, 3) := by decide +kernel
theorem dL_lists_117 : decode cL_lists 117 = .ok (.iload 11, 2) := by decide +kernel
theorem dL_lists_119 : decode cL_lists 119 = .ok (.iload 5, 2) := by decide +kernel
theorem dL_lists_121 : decode cL_lists 121 = .ok (.if_icmp .le 23, 3) := by decide +kernel
theorem dL_lists_124 : decode cL_lists 124 = .ok (.iload 8, 2) := by decide +kernel
theorem dL_lists_126 : decode cL_lists 126 = .ok (.ifCond .lt 10, 3) := by decide +kernel
theorem dL_lists_129 : decode cL_lists 129 = .ok (.iload 11, 2) := by decide +kernel
theorem dL_lists_131 : decode cL_lists 131 = .ok (.iload 9, 2) := by decide +kernel
theorem dL_lists_133 : decode cL_lists 133 = .ok (.if_icmp .ge 11, 3) := by decide +kernel
theorem dL_lists_136 : decode cL_lists 136 = .ok (.iload 10, 2) := by decide +kernel
theorem dL_lists_138 : decode cL_lists 138 = .ok (.istore 8, 2) := by decide +kernel
theorem dL_lists_140 : decode cL_lists 140 = .ok (.iload 11, 2) := by decide +kernel
theorem dL_lists_142 : decode cL_lists 142 = .ok (.istore 9, 2) := by decide +kernel
theorem dL_lists_144 : decode cL_lists 144 = .ok (.iinc 10 1, 3) := by decide +kernel
theorem dL_lists_147 : decode cL_lists 147 = .ok (.goto (-68), 3) := by decide +kernel
theorem dL_lists_150 : decode cL_lists 150 = .ok (.iload 9, 2) := by decide +kernel
theorem dL_lists_152 : decode cL_lists 152 = .ok (.istore 5, 2) := by decide +kernel
theorem dL_lists_154 : decode cL_lists 154 = .ok (.aload_n 1, 1) := by decide +kernel
theorem dL_lists_155 : decode cL_lists 155 = .ok (.bipush 8, 2) := by decide +kernel
theorem dL_lists_157 : decode cL_lists 157 = .ok (.iload 8, 2) := by decide +kernel
theorem dL_lists_159 : decode cL_lists 159 = .ok (.imul, 1) := by decide +kernel
theorem dL_lists_160 : decode cL_lists 160 = .ok (.iconst 1, 1) := by decide +kernel
theorem dL_lists_161 : decode cL_lists 161 = .ok (.iadd, 1) := by decide +kernel
theorem dL_lists_162 : decode cL_lists 162 = .ok (.iaload, 1) := by decide +kernel
theorem dL_lists_163 : decode cL_lists 163 = .ok (.istore 10, 2) := by decide +kernel
theorem dL_lists_165 : decode cL_lists 165 = .ok (.iload 10, 2) := by decide +kernel
theorem dL_lists_167 : decode cL_lists 167 = .ok (.ifCond .ge 7, 3) := by decide +kernel
theorem dL_lists_170 : decode cL_lists 170 = .ok (.iconst 1, 1) := by decide +kernel
theorem dL_lists_171 : decode cL_lists 171 = .ok (.goto 11, 3) := by decide +kernel
theorem dL_lists_174 : decode cL_lists 174 = .ok (.aload_n 1, 1) := by decide +kernel
theorem dL_lists_175 : decode cL_lists 175 = .ok (.iload 4, 2) := by decide +kernel
theorem dL_lists_177 : decode cL_lists 177 = .ok (.iload 10, 2) := by decide +kernel
theorem dL_lists_179 : decode cL_lists 179 = .ok (.invokestatic 39, 3) := by decide +kernel
theorem dL_lists_182 : decode cL_lists 182 = .ok (.istore 11, 2) := by decide +kernel
theorem dL_lists_184 : decode cL_lists 184 = .ok (.iload 10, 2) := by decide +kernel
theorem dL_lists_186 : decode cL_lists 186 = .ok (.ifCond .lt 37, 3) := by decide +kernel
theorem dL_lists_189 : decode cL_lists 189 = .ok (.iload 11, 2) := by decide +kernel
theorem dL_lists_191 : decode cL_lists 191 = .ok (.iconst 1, 1) := by decide +kernel
theorem dL_lists_192 : decode cL_lists 192 = .ok (.if_icmp .le 31, 3) := by decide +kernel
theorem dL_lists_195 : decode cL_lists 195 = .ok (.aload_n 0, 1) := by decide +kernel
theorem dL_lists_196 : decode cL_lists 196 = .ok (.bipush 10, 2) := by decide +kernel
theorem dL_lists_198 : decode cL_lists 198 = .ok (.iload 10, 2) := by decide +kernel
theorem dL_lists_200 : decode cL_lists 200 = .ok (.iadd, 1) := by decide +kernel
theorem dL_lists_201 : decode cL_lists 201 = .ok (.iaload, 1) := by decide +kernel
theorem dL_lists_202 : decode cL_lists 202 = .ok (.iconst 1, 1) := by decide +kernel
theorem dL_lists_203 : decode cL_lists 203 = .ok (.if_icmp .ne 20, 3) := by decide +kernel
theorem dL_lists_206 : decode cL_lists 206 = .ok (.iload 11, 2) := by decide +kernel
theorem dL_lists_208 : decode cL_lists 208 = .ok (.aload_n 1, 1) := by decide +kernel
theorem dL_lists_209 : decode cL_lists 209 = .ok (.bipush 15, 2) := by decide +kernel
theorem dL_lists_211 : decode cL_lists 211 = .ok (.iload 10, 2) := by decide +kernel
theorem dL_lists_213 : decode cL_lists 213 = .ok (.invokestatic 39, 3) := by decide +kernel
theorem dL_lists_216 : decode cL_lists 216 = .ok (.if_icmp .ne 7, 3) := by decide +kernel
theorem dL_lists_219 : decode cL_lists 219 = .ok (.iconst 1, 1) := by decide +kernel
theorem dL_lists_220 : decode cL_lists 220 = .ok (.goto 4, 3) := by decide +kernel
theorem dL_lists_223 : decode cL_lists 223 = .ok (.iconst 0, 1) := by decide +kernel
theorem dL_lists_224 : decode cL_lists 224 = .ok (.istore 12, 2) := by decide +kernel
theorem dL_lists_226 : decode cL_lists 226 = .ok (.iload 11, 2) := by decide +kernel
theorem dL_lists_228 : decode cL_lists 228 = .ok (.iconst 1, 1) := by decide +kernel
theorem dL_lists_229 : decode cL_lists 229 = .ok (.if_icmp .le 43, 3) := by decide +kernel
theorem dL_lists_232 : decode cL_lists 232 = .ok (.iload 10, 2) := by decide +kernel
theorem dL_lists_234 : decode cL_lists 234 = .ok (.iload 6, 2) := by decide +kernel
theorem dL_lists_236 : decode cL_lists 236 = .ok (.if_icmp .eq 36, 3) := by decide +kernel
theorem dL_lists_239 : decode cL_lists 239 = .ok (.aload_n 3, 1) := by decide +kernel
theorem dL_lists_240 : decode cL_lists 240 = .ok (.bipush 10, 2) := by decide +kernel
theorem dL_lists_242 : decode cL_lists 242 = .ok (.aload_n 3, 1) := by decide +kernel
theorem dL_lists_243 : decode cL_lists 243 = .ok (.iconst 0, 1) := by decide +kernel
theorem dL_lists_244 : decode cL_lists 244 = .ok (.iaload, 1) := by decide +kernel
theorem dL_lists_245 : decode cL_lists 245 = .ok (.iadd, 1) := by decide +kernel
theorem dL_lists_246 : decode cL_lists 246 = .ok (.iload 12, 2) := by decide +kernel
theorem dL_lists_248 : decode cL_lists 248 = .ok (.ifCond .eq 7, 3) := by decide +kernel
theorem dL_lists_251 : decode cL_lists 251 = .ok (.iconst 2, 1) := by decide +kernel
theorem dL_lists_252 : decode cL_lists 252 = .ok (.goto 4, 3) := by decide +kernel
theorem dL_lists_255 : decode cL_lists 255 = .ok (.iconst 1, 1) := by decide +kernel
theorem dL_lists_256 : decode cL_lists 256 = .ok (.iconst (-1), 1) := by decide +kernel
theorem dL_lists_257 : decode cL_lists 257 = .ok (.iload 10, 2) := by decide +kernel
theorem dL_lists_259 : decode cL_lists 259 = .ok (.iconst (-1), 1) := by decide +kernel
theorem dL_lists_260 : decode cL_lists 260 = .ok (.iconst (-1), 1) := by decide +kernel
theorem dL_lists_261 : decode cL_lists 261 = .ok (.invokestatic 27, 3) := by decide +kernel
theorem dL_lists_264 : decode cL_lists 264 = .ok (.iastore, 1) := by decide +kernel
theorem dL_lists_265 : decode cL_lists 265 = .ok (.aload_n 3, 1) := by decide +kernel
theorem dL_lists_266 : decode cL_lists 266 = .ok (.iconst 0, 1) := by decide +kernel
theorem dL_lists_267 : decode cL_lists 267 = .ok (.dup2, 1) := by decide +kernel
theorem dL_lists_268 : decode cL_lists 268 = .ok (.iaload, 1) := by decide +kernel
theorem dL_lists_269 : decode cL_lists 269 = .ok (.iconst 1, 1) := by decide +kernel
theorem dL_lists_270 : decode cL_lists 270 = .ok (.iadd, 1) := by decide +kernel
theorem dL_lists_271 : decode cL_lists 271 = .ok (.iastore, 1) := by decide +kernel
theorem dL_lists_272 : decode cL_lists 272 = .ok (.iload 10, 2) := by decide +kernel
theorem dL_lists_274 : decode cL_lists 274 = .ok (.istore 6, 2) := by decide +kernel
theorem dL_lists_276 : decode cL_lists 276 = .ok (.aload_n 3, 1) := by decide +kernel
theorem dL_lists_277 : decode cL_lists 277 = .ok (.iconst 0, 1) := by decide +kernel
theorem dL_lists_278 : decode cL_lists 278 = .ok (.dup2, 1) := by decide +kernel
theorem dL_lists_279 : decode cL_lists 279 = .ok (.iaload, 1) := by decide +kernel
theorem dL_lists_280 : decode cL_lists 280 = .ok (.iload 12, 2) := by decide +kernel
theorem dL_lists_282 : decode cL_lists 282 = .ok (.ifCond .eq 7, 3) := by decide +kernel
theorem dL_lists_285 : decode cL_lists 285 = .ok (.iconst 0, 1) := by decide +kernel
theorem dL_lists_286 : decode cL_lists 286 = .ok (.goto 18, 3) := by decide +kernel
theorem dL_lists_289 : decode cL_lists 289 = .ok (.aload_n 0, 1) := by decide +kernel
theorem dL_lists_290 : decode cL_lists 290 = .ok (.aload_n 1, 1) := by decide +kernel
theorem dL_lists_291 : decode cL_lists 291 = .ok (.aload_n 2, 1) := by decide +kernel
theorem dL_lists_292 : decode cL_lists 292 = .ok (.aload_n 3, 1) := by decide +kernel
theorem dL_lists_293 : decode cL_lists 293 = .ok (.bipush 10, 2) := by decide +kernel
theorem dL_lists_295 : decode cL_lists 295 = .ok (.aload_n 3, 1) := by decide +kernel
theorem dL_lists_296 : decode cL_lists 296 = .ok (.iconst 0, 1) := by decide +kernel
theorem dL_lists_297 : decode cL_lists 297 = .ok (.iaload, 1) := by decide +kernel
theorem dL_lists_298 : decode cL_lists 298 = .ok (.iadd, 1) := by decide +kernel
theorem dL_lists_299 : decode cL_lists 299 = .ok (.iload 8, 2) := by decide +kernel
theorem dL_lists_301 : decode cL_lists 301 = .ok (.invokestatic 42, 3) := by decide +kernel
theorem dL_lists_304 : decode cL_lists 304 = .ok (.iadd, 1) := by decide +kernel
theorem dL_lists_305 : decode cL_lists 305 = .ok (.iastore, 1) := by decide +kernel
theorem dL_lists_306 : decode cL_lists 306 = .ok (.iinc 7 (-1), 3) := by decide +kernel
theorem dL_lists_309 : decode cL_lists 309 = .ok (.goto (-244), 3) := by decide +kernel
theorem dL_lists_312 : decode cL_lists 312 = .ok (.return_, 1) := by decide +kernel
theorem dL_covered_0 : decode cL_covered 0 = .ok (.iconst 0, 1) := by decide +kernel
theorem dL_covered_1 : decode cL_covered 1 = .ok (.istore_n 3, 1) := by decide +kernel
theorem dL_covered_2 : decode cL_covered 2 = .ok (.iconst 0, 1) := by decide +kernel
theorem dL_covered_3 : decode cL_covered 3 = .ok (.istore 4, 2) := by decide +kernel
theorem dL_covered_5 : decode cL_covered 5 = .ok (.iload 4, 2) := by decide +kernel
theorem dL_covered_7 : decode cL_covered 7 = .ok (.bipush 12, 2) := by decide +kernel
theorem dL_covered_9 : decode cL_covered 9 = .ok (.if_icmp .ge 83, 3) := by decide +kernel
theorem dL_covered_12 : decode cL_covered 12 = .ok (.aload_n 2, 1) := by decide +kernel
theorem dL_covered_13 : decode cL_covered 13 = .ok (.iconst 4, 1) := by decide +kernel
theorem dL_covered_14 : decode cL_covered 14 = .ok (.iaload, 1) := by decide +kernel
theorem dL_covered_15 : decode cL_covered 15 = .ok (.ifCond .lt 77, 3) := by decide +kernel
theorem dL_covered_18 : decode cL_covered 18 = .ok (.aload_n 1, 1) := by decide +kernel
theorem dL_covered_19 : decode cL_covered 19 = .ok (.iconst 5, 1) := by decide +kernel
theorem dL_covered_20 : decode cL_covered 20 = .ok (.iload 4, 2) := by decide +kernel
theorem dL_covered_22 : decode cL_covered 22 = .ok (.imul, 1) := by decide +kernel
theorem dL_covered_23 : decode cL_covered 23 = .ok (.iconst 1, 1) := by decide +kernel
theorem dL_covered_24 : decode cL_covered 24 = .ok (.iadd, 1) := by decide +kernel
theorem dL_covered_25 : decode cL_covered 25 = .ok (.iaload, 1) := by decide +kernel
theorem dL_covered_26 : decode cL_covered 26 = .ok (.aload_n 2, 1) := by decide +kernel
theorem dL_covered_27 : decode cL_covered 27 = .ok (.iconst 5, 1) := by decide +kernel
theorem dL_covered_28 : decode cL_covered 28 = .ok (.iaload, 1) := by decide +kernel
theorem dL_covered_29 : decode cL_covered 29 = .ok (.isub, 1) := by decide +kernel
theorem dL_covered_30 : decode cL_covered 30 = .ok (.istore 5, 2) := by decide +kernel
theorem dL_covered_32 : decode cL_covered 32 = .ok (.aload_n 1, 1) := by decide +kernel
theorem dL_covered_33 : decode cL_covered 33 = .ok (.iconst 5, 1) := by decide +kernel
theorem dL_covered_34 : decode cL_covered 34 = .ok (.iload 4, 2) := by decide +kernel
theorem dL_covered_36 : decode cL_covered 36 = .ok (.imul, 1) := by decide +kernel
theorem dL_covered_37 : decode cL_covered 37 = .ok (.iconst 2, 1) := by decide +kernel
theorem dL_covered_38 : decode cL_covered 38 = .ok (.iadd, 1) := by decide +kernel
theorem dL_covered_39 : decode cL_covered 39 = .ok (.iaload, 1) := by decide +kernel
theorem dL_covered_40 : decode cL_covered 40 = .ok (.aload_n 2, 1) := by decide +kernel
theorem dL_covered_41 : decode cL_covered 41 = .ok (.bipush 6, 2) := by decide +kernel
theorem dL_covered_43 : decode cL_covered 43 = .ok (.iaload, 1) := by decide +kernel
theorem dL_covered_44 : decode cL_covered 44 = .ok (.isub, 1) := by decide +kernel
theorem dL_covered_45 : decode cL_covered 45 = .ok (.istore 6, 2) := by decide +kernel
theorem dL_covered_47 : decode cL_covered 47 = .ok (.iload_n 3, 1) := by decide +kernel
theorem dL_covered_48 : decode cL_covered 48 = .ok (.iload 5, 2) := by decide +kernel
theorem dL_covered_50 : decode cL_covered 50 = .ok (.ifCond .lt 33, 3) := by decide +kernel
theorem dL_covered_53 : decode cL_covered 53 = .ok (.iload 5, 2) := by decide +kernel
theorem dL_covered_55 : decode cL_covered 55 = .ok (.aload_n 2, 1) := by decide +kernel
theorem dL_covered_56 : decode cL_covered 56 = .ok (.bipush 7, 2) := by decide +kernel
theorem dL_covered_58 : decode cL_covered 58 = .ok (.iaload, 1) := by decide +kernel
theorem dL_covered_59 : decode cL_covered 59 = .ok (.if_icmp .ge 24, 3) := by decide +kernel
theorem dL_covered_62 : decode cL_covered 62 = .ok (.iload 6, 2) := by decide +kernel
theorem dL_covered_64 : decode cL_covered 64 = .ok (.ifCond .lt 19, 3) := by decide +kernel
theorem dL_covered_67 : decode cL_covered 67 = .ok (.iload 6, 2) := by decide +kernel
theorem dL_covered_69 : decode cL_covered 69 = .ok (.aload_n 2, 1) := by decide +kernel
theorem dL_covered_70 : decode cL_covered 70 = .ok (.bipush 8, 2) := by decide +kernel
theorem dL_covered_72 : decode cL_covered 72 = .ok (.iaload, 1) := by decide +kernel
theorem dL_covered_73 : decode cL_covered 73 = .ok (.if_icmp .ge 10, 3) := by decide +kernel
theorem dL_covered_76 : decode cL_covered 76 = .ok (.iconst 1, 1) := by decide +kernel
theorem dL_covered_77 : decode cL_covered 77 = .ok (.iload 4, 2) := by decide +kernel
theorem dL_covered_79 : decode cL_covered 79 = .ok (.ishl, 1) := by decide +kernel
theorem dL_covered_80 : decode cL_covered 80 = .ok (.goto 4, 3) := by decide +kernel
theorem dL_covered_83 : decode cL_covered 83 = .ok (.iconst 0, 1) := by decide +kernel
theorem dL_covered_84 : decode cL_covered 84 = .ok (.ior, 1) := by decide +kernel
theorem dL_covered_85 : decode cL_covered 85 = .ok (.istore_n 3, 1) := by decide +kernel
theorem dL_covered_86 : decode cL_covered 86 = .ok (.iinc 4 1, 3) := by decide +kernel
theorem dL_covered_89 : decode cL_covered 89 = .ok (.goto (-84), 3) := by decide +kernel
theorem dL_covered_92 : decode cL_covered 92 = .ok (.iload_n 3, 1) := by decide +kernel
theorem dL_covered_93 : decode cL_covered 93 = .ok (.aload_n 0, 1) := by decide +kernel
theorem dL_covered_94 : decode cL_covered 94 = .ok (.aload_n 1, 1) := by decide +kernel
theorem dL_covered_95 : decode cL_covered 95 = .ok (.invokestatic 46, 3) := by decide +kernel
theorem dL_covered_98 : decode cL_covered 98 = .ok (.iand, 1) := by decide +kernel
theorem dL_covered_99 : decode cL_covered 99 = .ok (.ireturn, 1) := by decide +kernel
theorem dL_place_0 : decode cL_place 0 = .ok (.aload_n 1, 1) := by decide +kernel
theorem dL_place_1 : decode cL_place 1 = .ok (.iconst 0, 1) := by decide +kernel
theorem dL_place_2 : decode cL_place 2 = .ok (.iaload, 1) := by decide +kernel
theorem dL_place_3 : decode cL_place 3 = .ok (.aload_n 0, 1) := by decide +kernel
theorem dL_place_4 : decode cL_place 4 = .ok (.iconst 1, 1) := by decide +kernel
theorem dL_place_5 : decode cL_place 5 = .ok (.iaload, 1) := by decide +kernel
theorem dL_place_6 : decode cL_place 6 = .ok (.idiv, 1) := by decide +kernel
theorem dL_place_7 : decode cL_place 7 = .ok (.aload_n 1, 1) := by decide +kernel
theorem dL_place_8 : decode cL_place 8 = .ok (.iconst 0, 1) := by decide +kernel
theorem dL_place_9 : decode cL_place 9 = .ok (.iaload, 1) := by decide +kernel
theorem dL_place_10 : decode cL_place 10 = .ok (.aload_n 0, 1) := by decide +kernel
theorem dL_place_11 : decode cL_place 11 = .ok (.iconst 1, 1) := by decide +kernel
theorem dL_place_12 : decode cL_place 12 = .ok (.iaload, 1) := by decide +kernel
theorem dL_place_13 : decode cL_place 13 = .ok (.irem, 1) := by decide +kernel
theorem dL_place_14 : decode cL_place 14 = .ok (.ifCond .le 7, 3) := by decide +kernel
theorem dL_place_17 : decode cL_place 17 = .ok (.iconst 1, 1) := by decide +kernel
theorem dL_place_18 : decode cL_place 18 = .ok (.goto 4, 3) := by decide +kernel
theorem dL_place_21 : decode cL_place 21 = .ok (.iconst 0, 1) := by decide +kernel
theorem dL_place_22 : decode cL_place 22 = .ok (.iadd, 1) := by decide +kernel
theorem dL_place_23 : decode cL_place 23 = .ok (.istore_n 3, 1) := by decide +kernel
theorem dL_place_24 : decode cL_place 24 = .ok (.iconst 0, 1) := by decide +kernel
theorem dL_place_25 : decode cL_place 25 = .ok (.istore 4, 2) := by decide +kernel
theorem dL_place_27 : decode cL_place 27 = .ok (.iconst 0, 1) := by decide +kernel
theorem dL_place_28 : decode cL_place 28 = .ok (.istore 5, 2) := by decide +kernel
theorem dL_place_30 : decode cL_place 30 = .ok (.iconst 0, 1) := by decide +kernel
theorem dL_place_31 : decode cL_place 31 = .ok (.istore 6, 2) := by decide +kernel
theorem dL_place_33 : decode cL_place 33 = .ok (.iconst 0, 1) := by decide +kernel
theorem dL_place_34 : decode cL_place 34 = .ok (.istore 7, 2) := by decide +kernel
theorem dL_place_36 : decode cL_place 36 = .ok (.iload 7, 2) := by decide +kernel
theorem dL_place_38 : decode cL_place 38 = .ok (.aload_n 1, 1) := by decide +kernel
theorem dL_place_39 : decode cL_place 39 = .ok (.iconst 0, 1) := by decide +kernel
theorem dL_place_40 : decode cL_place 40 = .ok (.iaload, 1) := by decide +kernel
theorem dL_place_41 : decode cL_place 41 = .ok (.if_icmp .ge 134, 3) := by decide +kernel
theorem dL_place_44 : decode cL_place 44 = .ok (.aload_n 1, 1) := by decide +kernel
theorem dL_place_45 : decode cL_place 45 = .ok (.bipush 10, 2) := by decide +kernel
theorem dL_place_47 : decode cL_place 47 = .ok (.iload 7, 2) := by decide +kernel
theorem dL_place_49 : decode cL_place 49 = .ok (.iadd, 1) := by decide +kernel
theorem dL_place_50 : decode cL_place 50 = .ok (.iaload, 1) := by decide +kernel
theorem dL_place_51 : decode cL_place 51 = .ok (.sipush 20000, 3) := by decide +kernel
theorem dL_place_54 : decode cL_place 54 = .ok (.idiv, 1) := by decide +kernel
theorem dL_place_55 : decode cL_place 55 = .ok (.iconst 1, 1) := by decide +kernel
theorem dL_place_56 : decode cL_place 56 = .ok (.if_icmp .ne 7, 3) := by decide +kernel
theorem dL_place_59 : decode cL_place 59 = .ok (.iconst 1, 1) := by decide +kernel
theorem dL_place_60 : decode cL_place 60 = .ok (.goto 4, 3) := by decide +kernel
theorem dL_place_63 : decode cL_place 63 = .ok (.iconst 0, 1) := by decide +kernel
theorem dL_place_64 : decode cL_place 64 = .ok (.istore 8, 2) := by decide +kernel
theorem dL_place_66 : decode cL_place 66 = .ok (.iload 4, 2) := by decide +kernel
theorem dL_place_68 : decode cL_place 68 = .ok (.iconst 1, 1) := by decide +kernel
theorem dL_place_69 : decode cL_place 69 = .ok (.iadd, 1) := by decide +kernel
theorem dL_place_70 : decode cL_place 70 = .ok (.aload_n 0, 1) := by decide +kernel
theorem dL_place_71 : decode cL_place 71 = .ok (.iconst 1, 1) := by decide +kernel
theorem dL_place_72 : decode cL_place 72 = .ok (.iaload, 1) := by decide +kernel
theorem dL_place_73 : decode cL_place 73 = .ok (.if_icmp .ge 31, 3) := by decide +kernel
theorem dL_place_76 : decode cL_place 76 = .ok (.iload 5, 2) := by decide +kernel
theorem dL_place_78 : decode cL_place 78 = .ok (.iload_n 3, 1) := by decide +kernel
theorem dL_place_79 : decode cL_place 79 = .ok (.if_icmp .ge 21, 3) := by decide +kernel
theorem dL_place_82 : decode cL_place 82 = .ok (.iload 8, 2) := by decide +kernel
theorem dL_place_84 : decode cL_place 84 = .ok (.ifCond .eq 20, 3) := by decide +kernel
theorem dL_place_87 : decode cL_place 87 = .ok (.iload 5, 2) := by decide +kernel
theorem dL_place_89 : decode cL_place 89 = .ok (.ifCond .le 15, 3) := by decide +kernel
theorem dL_place_92 : decode cL_place 92 = .ok (.iload 5, 2) := by decide +kernel
theorem dL_place_94 : decode cL_place 94 = .ok (.iload_n 3, 1) := by decide +kernel
theorem dL_place_95 : decode cL_place 95 = .ok (.iconst 1, 1) := by decide +kernel
theorem dL_place_96 : decode cL_place 96 = .ok (.isub, 1) := by decide +kernel
theorem dL_place_97 : decode cL_place 97 = .ok (.if_icmp .lt 7, 3) := by decide +kernel
theorem dL_place_100 : decode cL_place 100 = .ok (.iconst 1, 1) := by decide +kernel
theorem dL_place_101 : decode cL_place 101 = .ok (.goto 4, 3) := by decide +kernel
theorem dL_place_104 : decode cL_place 104 = .ok (.iconst 0, 1) := by decide +kernel
theorem dL_place_105 : decode cL_place 105 = .ok (.istore 9, 2) := by decide +kernel
theorem dL_place_107 : decode cL_place 107 = .ok (.iload 4, 2) := by decide +kernel
theorem dL_place_109 : decode cL_place 109 = .ok (.iload 9, 2) := by decide +kernel
theorem dL_place_111 : decode cL_place 111 = .ok (.ifCond .eq 7, 3) := by decide +kernel
theorem dL_place_114 : decode cL_place 114 = .ok (.iconst 1, 1) := by decide +kernel
theorem dL_place_115 : decode cL_place 115 = .ok (.goto 4, 3) := by decide +kernel
theorem dL_place_118 : decode cL_place 118 = .ok (.iconst 0, 1) := by decide +kernel
theorem dL_place_119 : decode cL_place 119 = .ok (.iadd, 1) := by decide +kernel
theorem dL_place_120 : decode cL_place 120 = .ok (.istore 4, 2) := by decide +kernel
theorem dL_place_122 : decode cL_place 122 = .ok (.iload 9, 2) := by decide +kernel
theorem dL_place_124 : decode cL_place 124 = .ok (.ifCond .eq 7, 3) := by decide +kernel
theorem dL_place_127 : decode cL_place 127 = .ok (.iconst 0, 1) := by decide +kernel
theorem dL_place_128 : decode cL_place 128 = .ok (.goto 5, 3) := by decide +kernel
theorem dL_place_131 : decode cL_place 131 = .ok (.iload 5, 2) := by decide +kernel
theorem dL_place_133 : decode cL_place 133 = .ok (.istore 5, 2) := by decide +kernel
theorem dL_place_135 : decode cL_place 135 = .ok (.iload 7, 2) := by decide +kernel
theorem dL_place_137 : decode cL_place 137 = .ok (.iload_n 2, 1) := by decide +kernel
theorem dL_place_138 : decode cL_place 138 = .ok (.if_icmp .ne 12, 3) := by decide +kernel
theorem dL_place_141 : decode cL_place 141 = .ok (.iload 4, 2) := by decide +kernel
theorem dL_place_143 : decode cL_place 143 = .ok (.bipush 100, 2) := by decide +kernel
theorem dL_place_145 : decode cL_place 145 = .ok (.iload 5, 2) := by decide +kernel
theorem dL_place_147 : decode cL_place 147 = .ok (.imul, 1) := by decide +kernel
theorem dL_place_148 : decode cL_place 148 = .ok (.iadd, 1) := by decide +kernel
theorem dL_place_149 : decode cL_place 149 = .ok (.ireturn, 1) := by decide +kernel
theorem dL_place_150 : decode cL_place 150 = .ok (.iinc 5 1, 3) := by decide +kernel
theorem dL_place_153 : decode cL_place 153 = .ok (.iload 5, 2) := by decide +kernel
theorem dL_place_155 : decode cL_place 155 = .ok (.iload 6, 2) := by decide +kernel
theorem dL_place_157 : decode cL_place 157 = .ok (.if_icmp .le 8, 3) := by decide +kernel
theorem dL_place_160 : decode cL_place 160 = .ok (.iload 5, 2) := by decide +kernel
theorem dL_place_162 : decode cL_place 162 = .ok (.goto 5, 3) := by decide +kernel
theorem dL_place_165 : decode cL_place 165 = .ok (.iload 6, 2) := by decide +kernel
theorem dL_place_167 : decode cL_place 167 = .ok (.istore 6, 2) := by decide +kernel
theorem dL_place_169 : decode cL_place 169 = .ok (.iinc 7 1, 3) := by decide +kernel
theorem dL_place_172 : decode cL_place 172 = .ok (.goto (-136), 3) := by decide +kernel
theorem dL_place_175 : decode cL_place 175 = .ok (.iload 4, 2) := by decide +kernel
theorem dL_place_177 : decode cL_place 177 = .ok (.iconst 1, 1) := by decide +kernel
theorem dL_place_178 : decode cL_place 178 = .ok (.iadd, 1) := by decide +kernel
theorem dL_place_179 : decode cL_place 179 = .ok (.bipush 100, 2) := by decide +kernel
theorem dL_place_181 : decode cL_place 181 = .ok (.iload 6, 2) := by decide +kernel
theorem dL_place_183 : decode cL_place 183 = .ok (.imul, 1) := by decide +kernel
theorem dL_place_184 : decode cL_place 184 = .ok (.iadd, 1) := by decide +kernel
theorem dL_place_185 : decode cL_place 185 = .ok (.ireturn, 1) := by decide +kernel
theorem dL_box_0 : decode cL_box 0 = .ok (.aload_n 2, 1) := by decide +kernel
theorem dL_box_1 : decode cL_box 1 = .ok (.iconst 4, 1) := by decide +kernel
theorem dL_box_2 : decode cL_box 2 = .ok (.iconst (-1), 1) := by decide +kernel
theorem dL_box_3 : decode cL_box 3 = .ok (.iastore, 1) := by decide +kernel
theorem dL_box_4 : decode cL_box 4 = .ok (.aload_n 2, 1) := by decide +kernel
theorem dL_box_5 : decode cL_box 5 = .ok (.iconst 0, 1) := by decide +kernel
theorem dL_box_6 : decode cL_box 6 = .ok (.iaload, 1) := by decide +kernel
theorem dL_box_7 : decode cL_box 7 = .ok (.ifCond .ne 4, 3) := by decide +kernel
theorem dL_box_10 : decode cL_box 10 = .ok (.return_, 1) := by decide +kernel
theorem dL_box_11 : decode cL_box 11 = .ok (.aload_n 0, 1) := by decide +kernel
theorem dL_box_12 : decode cL_box 12 = .ok (.aload_n 2, 1) := by decide +kernel
theorem dL_box_13 : decode cL_box 13 = .ok (.aload_n 2, 1) := by decide +kernel
theorem dL_box_14 : decode cL_box 14 = .ok (.iconst 0, 1) := by decide +kernel
theorem dL_box_15 : decode cL_box 15 = .ok (.iaload, 1) := by decide +kernel
theorem dL_box_16 : decode cL_box 16 = .ok (.invokestatic 50, 3) := by decide +kernel
theorem dL_box_19 : decode cL_box 19 = .ok (.istore_n 3, 1) := by decide +kernel
theorem dL_box_20 : decode cL_box 20 = .ok (.aload_n 2, 1) := by decide +kernel
theorem dL_box_21 : decode cL_box 21 = .ok (.bipush 7, 2) := by decide +kernel
theorem dL_box_23 : decode cL_box 23 = .ok (.iload_n 3, 1) := by decide +kernel
theorem dL_box_24 : decode cL_box 24 = .ok (.bipush 100, 2) := by decide +kernel
theorem dL_box_26 : decode cL_box 26 = .ok (.irem, 1) := by decide +kernel
theorem dL_box_27 : decode cL_box 27 = .ok (.aload_n 0, 1) := by decide +kernel
theorem dL_box_28 : decode cL_box 28 = .ok (.iconst 2, 1) := by decide +kernel
theorem dL_box_29 : decode cL_box 29 = .ok (.iaload, 1) := by decide +kernel
theorem dL_box_30 : decode cL_box 30 = .ok (.imul, 1) := by decide +kernel
theorem dL_box_31 : decode cL_box 31 = .ok (.iastore, 1) := by decide +kernel
theorem dL_box_32 : decode cL_box 32 = .ok (.aload_n 2, 1) := by decide +kernel
theorem dL_box_33 : decode cL_box 33 = .ok (.bipush 7, 2) := by decide +kernel
theorem dL_box_35 : decode cL_box 35 = .ok (.aload_n 2, 1) := by decide +kernel
theorem dL_box_36 : decode cL_box 36 = .ok (.bipush 7, 2) := by decide +kernel
theorem dL_box_38 : decode cL_box 38 = .ok (.iaload, 1) := by decide +kernel
theorem dL_box_39 : decode cL_box 39 = .ok (.aload_n 0, 1) := by decide +kernel
theorem dL_box_40 : decode cL_box 40 = .ok (.bipush 6, 2) := by decide +kernel
theorem dL_box_42 : decode cL_box 42 = .ok (.iaload, 1) := by decide +kernel
theorem dL_box_43 : decode cL_box 43 = .ok (.if_icmp .le 10, 3) := by decide +kernel
theorem dL_box_46 : decode cL_box 46 = .ok (.aload_n 0, 1) := by decide +kernel
theorem dL_box_47 : decode cL_box 47 = .ok (.bipush 6, 2) := by decide +kernel
theorem dL_box_49 : decode cL_box 49 = .ok (.iaload, 1) := by decide +kernel
theorem dL_box_50 : decode cL_box 50 = .ok (.goto 7, 3) := by decide +kernel
theorem dL_box_53 : decode cL_box 53 = .ok (.aload_n 2, 1) := by decide +kernel
theorem dL_box_54 : decode cL_box 54 = .ok (.bipush 7, 2) := by decide +kernel
theorem dL_box_56 : decode cL_box 56 = .ok (.iaload, 1) := by decide +kernel
theorem dL_box_57 : decode cL_box 57 = .ok (.iastore, 1) := by decide +kernel
theorem dL_box_58 : decode cL_box 58 = .ok (.aload_n 2, 1) := by decide +kernel
theorem dL_box_59 : decode cL_box 59 = .ok (.bipush 8, 2) := by decide +kernel
theorem dL_box_61 : decode cL_box 61 = .ok (.iload_n 3, 1) := by decide +kernel
theorem dL_box_62 : decode cL_box 62 = .ok (.bipush 100, 2) := by decide +kernel
theorem dL_box_64 : decode cL_box 64 = .ok (.idiv, 1) := by decide +kernel
theorem dL_box_65 : decode cL_box 65 = .ok (.aload_n 0, 1) := by decide +kernel
theorem dL_box_66 : decode cL_box 66 = .ok (.iconst 3, 1) := by decide +kernel
theorem dL_box_67 : decode cL_box 67 = .ok (.iaload, 1) := by decide +kernel
theorem dL_box_68 : decode cL_box 68 = .ok (.imul, 1) := by decide +kernel
theorem dL_box_69 : decode cL_box 69 = .ok (.iastore, 1) := by decide +kernel
theorem dL_box_70 : decode cL_box 70 = .ok (.aload_n 2, 1) := by decide +kernel
theorem dL_box_71 : decode cL_box 71 = .ok (.bipush 8, 2) := by decide +kernel
theorem dL_box_73 : decode cL_box 73 = .ok (.aload_n 2, 1) := by decide +kernel
theorem dL_box_74 : decode cL_box 74 = .ok (.bipush 8, 2) := by decide +kernel
theorem dL_box_76 : decode cL_box 76 = .ok (.iaload, 1) := by decide +kernel
theorem dL_box_77 : decode cL_box 77 = .ok (.aload_n 0, 1) := by decide +kernel
theorem dL_box_78 : decode cL_box 78 = .ok (.bipush 7, 2) := by decide +kernel
theorem dL_box_80 : decode cL_box 80 = .ok (.iaload, 1) := by decide +kernel
theorem dL_box_81 : decode cL_box 81 = .ok (.if_icmp .le 10, 3) := by decide +kernel
theorem dL_box_84 : decode cL_box 84 = .ok (.aload_n 0, 1) := by decide +kernel
theorem dL_box_85 : decode cL_box 85 = .ok (.bipush 7, 2) := by decide +kernel
theorem dL_box_87 : decode cL_box 87 = .ok (.iaload, 1) := by decide +kernel
theorem dL_box_88 : decode cL_box 88 = .ok (.goto 7, 3) := by decide +kernel
theorem dL_box_91 : decode cL_box 91 = .ok (.aload_n 2, 1) := by decide +kernel
theorem dL_box_92 : decode cL_box 92 = .ok (.bipush 8, 2) := by decide +kernel
theorem dL_box_94 : decode cL_box 94 = .ok (.iaload, 1) := by decide +kernel
theorem dL_box_95 : decode cL_box 95 = .ok (.iastore, 1) := by decide +kernel
theorem dL_box_96 : decode cL_box 96 = .ok (.iconst (-1), 1) := by decide +kernel
theorem dL_box_97 : decode cL_box 97 = .ok (.istore 4, 2) := by decide +kernel
theorem dL_box_99 : decode cL_box 99 = .ok (.bipush 99, 2) := by decide +kernel
theorem dL_box_101 : decode cL_box 101 = .ok (.istore 5, 2) := by decide +kernel
theorem dL_box_103 : decode cL_box 103 = .ok (.iconst 0, 1) := by decide +kernel
theorem dL_box_104 : decode cL_box 104 = .ok (.istore 6, 2) := by decide +kernel
theorem dL_box_106 : decode cL_box 106 = .ok (.iload 6, 2) := by decide +kernel
theorem dL_box_108 : decode cL_box 108 = .ok (.iconst 5, 1) := by decide +kernel
theorem dL_box_109 : decode cL_box 109 = .ok (.if_icmp .ge 135, 3) := by decide +kernel
theorem dL_box_112 : decode cL_box 112 = .ok (.aload_n 2, 1) := by decide +kernel
theorem dL_box_113 : decode cL_box 113 = .ok (.iconst 4, 1) := by decide +kernel
theorem dL_box_114 : decode cL_box 114 = .ok (.iload 6, 2) := by decide +kernel
theorem dL_box_116 : decode cL_box 116 = .ok (.iconst 4, 1) := by decide +kernel
theorem dL_box_117 : decode cL_box 117 = .ok (.if_icmp .ne 8, 3) := by decide +kernel
theorem dL_box_120 : decode cL_box 120 = .ok (.iload 4, 2) := by decide +kernel
theorem dL_box_122 : decode cL_box 122 = .ok (.goto 5, 3) := by decide +kernel
theorem dL_box_125 : decode cL_box 125 = .ok (.iload 6, 2) := by decide +kernel
theorem dL_box_127 : decode cL_box 127 = .ok (.iastore, 1) := by decide +kernel
theorem dL_box_128 : decode cL_box 128 = .ok (.aload_n 2, 1) := by decide +kernel
theorem dL_box_129 : decode cL_box 129 = .ok (.iconst 5, 1) := by decide +kernel
theorem dL_box_130 : decode cL_box 130 = .ok (.aload_n 2, 1) := by decide +kernel
theorem dL_box_131 : decode cL_box 131 = .ok (.iconst 4, 1) := by decide +kernel
theorem dL_box_132 : decode cL_box 132 = .ok (.iaload, 1) := by decide +kernel
theorem dL_box_133 : decode cL_box 133 = .ok (.iconst 2, 1) := by decide +kernel
theorem dL_box_134 : decode cL_box 134 = .ok (.irem, 1) := by decide +kernel
theorem dL_box_135 : decode cL_box 135 = .ok (.iconst 1, 1) := by decide +kernel
theorem dL_box_136 : decode cL_box 136 = .ok (.if_icmp .ne 19, 3) := by decide +kernel
theorem dL_box_139 : decode cL_box 139 = .ok (.aload_n 0, 1) := by decide +kernel
theorem dL_box_140 : decode cL_box 140 = .ok (.iconst 4, 1) := by decide +kernel
theorem dL_box_141 : decode cL_box 141 = .ok (.iaload, 1) := by decide +kernel
theorem dL_box_142 : decode cL_box 142 = .ok (.aload_n 0, 1) := by decide +kernel
theorem dL_box_143 : decode cL_box 143 = .ok (.bipush 6, 2) := by decide +kernel
theorem dL_box_145 : decode cL_box 145 = .ok (.iaload, 1) := by decide +kernel
theorem dL_box_146 : decode cL_box 146 = .ok (.iadd, 1) := by decide +kernel
theorem dL_box_147 : decode cL_box 147 = .ok (.aload_n 2, 1) := by decide +kernel
theorem dL_box_148 : decode cL_box 148 = .ok (.bipush 7, 2) := by decide +kernel
theorem dL_box_150 : decode cL_box 150 = .ok (.iaload, 1) := by decide +kernel
theorem dL_box_151 : decode cL_box 151 = .ok (.isub, 1) := by decide +kernel
theorem dL_box_152 : decode cL_box 152 = .ok (.goto 6, 3) := by decide +kernel
theorem dL_box_155 : decode cL_box 155 = .ok (.aload_n 0, 1) := by decide +kernel
theorem dL_box_156 : decode cL_box 156 = .ok (.iconst 4, 1) := by decide +kernel
theorem dL_box_157 : decode cL_box 157 = .ok (.iaload, 1) := by decide +kernel
theorem dL_box_158 : decode cL_box 158 = .ok (.iastore, 1) := by decide +kernel
theorem dL_box_159 : decode cL_box 159 = .ok (.aload_n 2, 1) := by decide +kernel
theorem dL_box_160 : decode cL_box 160 = .ok (.bipush 6, 2) := by decide +kernel
theorem dL_box_162 : decode cL_box 162 = .ok (.aload_n 2, 1) := by decide +kernel
theorem dL_box_163 : decode cL_box 163 = .ok (.iconst 4, 1) := by decide +kernel
theorem dL_box_164 : decode cL_box 164 = .ok (.iaload, 1) := by decide +kernel
theorem dL_box_165 : decode cL_box 165 = .ok (.iconst 1, 1) := by decide +kernel
theorem dL_box_166 : decode cL_box 166 = .ok (.if_icmp .le 19, 3) := by decide +kernel
theorem dL_box_169 : decode cL_box 169 = .ok (.aload_n 0, 1) := by decide +kernel
theorem dL_box_170 : decode cL_box 170 = .ok (.iconst 5, 1) := by decide +kernel
theorem dL_box_171 : decode cL_box 171 = .ok (.iaload, 1) := by decide +kernel
theorem dL_box_172 : decode cL_box 172 = .ok (.aload_n 0, 1) := by decide +kernel
theorem dL_box_173 : decode cL_box 173 = .ok (.bipush 7, 2) := by decide +kernel
theorem dL_box_175 : decode cL_box 175 = .ok (.iaload, 1) := by decide +kernel
theorem dL_box_176 : decode cL_box 176 = .ok (.iadd, 1) := by decide +kernel
theorem dL_box_177 : decode cL_box 177 = .ok (.aload_n 2, 1) := by decide +kernel
theorem dL_box_178 : decode cL_box 178 = .ok (.bipush 8, 2) := by decide +kernel
theorem dL_box_180 : decode cL_box 180 = .ok (.iaload, 1) := by decide +kernel
theorem dL_box_181 : decode cL_box 181 = .ok (.isub, 1) := by decide +kernel
theorem dL_box_182 : decode cL_box 182 = .ok (.goto 6, 3) := by decide +kernel
theorem dL_box_185 : decode cL_box 185 = .ok (.aload_n 0, 1) := by decide +kernel
theorem dL_box_186 : decode cL_box 186 = .ok (.iconst 5, 1) := by decide +kernel
theorem dL_box_187 : decode cL_box 187 = .ok (.iaload, 1) := by decide +kernel
theorem dL_box_188 : decode cL_box 188 = .ok (.iastore, 1) := by decide +kernel
theorem dL_box_189 : decode cL_box 189 = .ok (.aload_n 0, 1) := by decide +kernel
theorem dL_box_190 : decode cL_box 190 = .ok (.aload_n 1, 1) := by decide +kernel
theorem dL_box_191 : decode cL_box 191 = .ok (.aload_n 2, 1) := by decide +kernel
theorem dL_box_192 : decode cL_box 192 = .ok (.invokestatic 53, 3) := by decide +kernel
theorem dL_box_195 : decode cL_box 195 = .ok (.invokestatic 31, 3) := by decide +kernel
theorem dL_box_198 : decode cL_box 198 = .ok (.istore 7, 2) := by decide +kernel
theorem dL_box_200 : decode cL_box 200 = .ok (.iload 6, 2) := by decide +kernel
theorem dL_box_202 : decode cL_box 202 = .ok (.iconst 4, 1) := by decide +kernel
theorem dL_box_203 : decode cL_box 203 = .ok (.if_icmp .ge 15, 3) := by decide +kernel
theorem dL_box_206 : decode cL_box 206 = .ok (.iload 7, 2) := by decide +kernel
theorem dL_box_208 : decode cL_box 208 = .ok (.iload 5, 2) := by decide +kernel
theorem dL_box_210 : decode cL_box 210 = .ok (.if_icmp .ge 8, 3) := by decide +kernel
theorem dL_box_213 : decode cL_box 213 = .ok (.iload 6, 2) := by decide +kernel
theorem dL_box_215 : decode cL_box 215 = .ok (.goto 5, 3) := by decide +kernel
theorem dL_box_218 : decode cL_box 218 = .ok (.iload 4, 2) := by decide +kernel
theorem dL_box_220 : decode cL_box 220 = .ok (.istore 4, 2) := by decide +kernel
theorem dL_box_222 : decode cL_box 222 = .ok (.iload 7, 2) := by decide +kernel
theorem dL_box_224 : decode cL_box 224 = .ok (.iload 5, 2) := by decide +kernel
theorem dL_box_226 : decode cL_box 226 = .ok (.if_icmp .ge 8, 3) := by decide +kernel
theorem dL_box_229 : decode cL_box 229 = .ok (.iload 7, 2) := by decide +kernel
theorem dL_box_231 : decode cL_box 231 = .ok (.goto 5, 3) := by decide +kernel
theorem dL_box_234 : decode cL_box 234 = .ok (.iload 5, 2) := by decide +kernel
theorem dL_box_236 : decode cL_box 236 = .ok (.istore 5, 2) := by decide +kernel
theorem dL_box_238 : decode cL_box 238 = .ok (.iinc 6 1, 3) := by decide +kernel
theorem dL_box_241 : decode cL_box 241 = .ok (.goto (-135), 3) := by decide +kernel
theorem dL_box_244 : decode cL_box 244 = .ok (.return_, 1) := by decide +kernel
theorem dL_legend_0 : decode cL_legend 0 = .ok (.bipush 64, 2) := by decide +kernel
theorem dL_legend_2 : decode cL_legend 2 = .ok (.newarray .int, 2) := by decide +kernel
theorem dL_legend_4 : decode cL_legend 4 = .ok (.astore 4, 2) := by decide +kernel
theorem dL_legend_6 : decode cL_legend 6 = .ok (.aload_n 3, 1) := by decide +kernel
theorem dL_legend_7 : decode cL_legend 7 = .ok (.iconst 1, 1) := by decide +kernel
theorem dL_legend_8 : decode cL_legend 8 = .ok (.iconst 0, 1) := by decide +kernel
theorem dL_legend_9 : decode cL_legend 9 = .ok (.iastore, 1) := by decide +kernel
theorem dL_legend_10 : decode cL_legend 10 = .ok (.aload_n 3, 1) := by decide +kernel
theorem dL_legend_11 : decode cL_legend 11 = .ok (.iconst 2, 1) := by decide +kernel
theorem dL_legend_12 : decode cL_legend 12 = .ok (.iconst 0, 1) := by decide +kernel
theorem dL_legend_13 : decode cL_legend 13 = .ok (.iastore, 1) := by decide +kernel
theorem dL_legend_14 : decode cL_legend 14 = .ok (.aload_n 3, 1) := by decide +kernel
theorem dL_legend_15 : decode cL_legend 15 = .ok (.iconst 4, 1) := by decide +kernel
theorem dL_legend_16 : decode cL_legend 16 = .ok (.iconst (-1), 1) := by decide +kernel
theorem dL_legend_17 : decode cL_legend 17 = .ok (.iastore, 1) := by decide +kernel
theorem dL_legend_18 : decode cL_legend 18 = .ok (.aload_n 3, 1) := by decide +kernel
theorem dL_legend_19 : decode cL_legend 19 = .ok (.iconst 1, 1) := by decide +kernel
theorem dL_legend_20 : decode cL_legend 20 = .ok (.iaload, 1) := by decide +kernel
theorem dL_legend_21 : decode cL_legend 21 = .ok (.bipush 8, 2) := by decide +kernel
theorem dL_legend_23 : decode cL_legend 23 = .ok (.if_icmp .ge 179, 3) := by decide +kernel
theorem dL_legend_26 : decode cL_legend 26 = .ok (.aload_n 3, 1) := by decide +kernel
theorem dL_legend_27 : decode cL_legend 27 = .ok (.iconst 2, 1) := by decide +kernel
theorem dL_legend_28 : decode cL_legend 28 = .ok (.iaload, 1) := by decide +kernel
theorem dL_legend_29 : decode cL_legend 29 = .ok (.ifCond .ne 173, 3) := by decide +kernel
theorem dL_legend_32 : decode cL_legend 32 = .ok (.iconst 0, 1) := by decide +kernel
theorem dL_legend_33 : decode cL_legend 33 = .ok (.istore 5, 2) := by decide +kernel
theorem dL_legend_35 : decode cL_legend 35 = .ok (.iload 5, 2) := by decide +kernel
theorem dL_legend_37 : decode cL_legend 37 = .ok (.bipush 64, 2) := by decide +kernel
theorem dL_legend_39 : decode cL_legend 39 = .ok (.if_icmp .ge 18, 3) := by decide +kernel
theorem dL_legend_42 : decode cL_legend 42 = .ok (.aload 4, 2) := by decide +kernel
theorem dL_legend_44 : decode cL_legend 44 = .ok (.iload 5, 2) := by decide +kernel
theorem dL_legend_46 : decode cL_legend 46 = .ok (.aload_n 3, 1) := by decide +kernel
theorem dL_legend_47 : decode cL_legend 47 = .ok (.iload 5, 2) := by decide +kernel
theorem dL_legend_49 : decode cL_legend 49 = .ok (.iaload, 1) := by decide +kernel
theorem dL_legend_50 : decode cL_legend 50 = .ok (.iastore, 1) := by decide +kernel
theorem dL_legend_51 : decode cL_legend 51 = .ok (.iinc 5 1, 3) := by decide +kernel
theorem dL_legend_54 : decode cL_legend 54 = .ok (.goto (-19), 3) := by decide +kernel
theorem dL_legend_57 : decode cL_legend 57 = .ok (.aload_n 3, 1) := by decide +kernel
theorem dL_legend_58 : decode cL_legend 58 = .ok (.iconst 3, 1) := by decide +kernel
theorem dL_legend_59 : decode cL_legend 59 = .ok (.aload_n 0, 1) := by decide +kernel
theorem dL_legend_60 : decode cL_legend 60 = .ok (.aload_n 2, 1) := by decide +kernel
theorem dL_legend_61 : decode cL_legend 61 = .ok (.invokestatic 46, 3) := by decide +kernel
theorem dL_legend_64 : decode cL_legend 64 = .ok (.aload_n 0, 1) := by decide +kernel
theorem dL_legend_65 : decode cL_legend 65 = .ok (.aload_n 2, 1) := by decide +kernel
theorem dL_legend_66 : decode cL_legend 66 = .ok (.aload_n 3, 1) := by decide +kernel
theorem dL_legend_67 : decode cL_legend 67 = .ok (.invokestatic 53, 3) := by decide +kernel
theorem dL_legend_70 : decode cL_legend 70 = .ok (.iconst (-1), 1) := by decide +kernel
theorem dL_legend_71 : decode cL_legend 71 = .ok (.ixor, 1) := by decide +kernel
theorem dL_legend_72 : decode cL_legend 72 = .ok (.iand, 1) := by decide +kernel
theorem dL_legend_73 : decode cL_legend 73 = .ok (.iastore, 1) := by decide +kernel
theorem dL_legend_74 : decode cL_legend 74 = .ok (.aload_n 0, 1) := by decide +kernel
theorem dL_legend_75 : decode cL_legend 75 = .ok (.aload_n 1, 1) := by decide +kernel
theorem dL_legend_76 : decode cL_legend 76 = .ok (.aload_n 2, 1) := by decide +kernel
theorem dL_legend_77 : decode cL_legend 77 = .ok (.aload_n 3, 1) := by decide +kernel
theorem dL_legend_78 : decode cL_legend 78 = .ok (.invokestatic 57, 3) := by decide +kernel
theorem dL_legend_81 : decode cL_legend 81 = .ok (.aload_n 0, 1) := by decide +kernel
theorem dL_legend_82 : decode cL_legend 82 = .ok (.aload_n 2, 1) := by decide +kernel
theorem dL_legend_83 : decode cL_legend 83 = .ok (.aload_n 3, 1) := by decide +kernel
theorem dL_legend_84 : decode cL_legend 84 = .ok (.invokestatic 61, 3) := by decide +kernel
theorem dL_legend_87 : decode cL_legend 87 = .ok (.aload_n 3, 1) := by decide +kernel
theorem dL_legend_88 : decode cL_legend 88 = .ok (.iconst 1, 1) := by decide +kernel
theorem dL_legend_89 : decode cL_legend 89 = .ok (.dup2, 1) := by decide +kernel
theorem dL_legend_90 : decode cL_legend 90 = .ok (.iaload, 1) := by decide +kernel
theorem dL_legend_91 : decode cL_legend 91 = .ok (.iconst 1, 1) := by decide +kernel
theorem dL_legend_92 : decode cL_legend 92 = .ok (.iadd, 1) := by decide +kernel
theorem dL_legend_93 : decode cL_legend 93 = .ok (.iastore, 1) := by decide +kernel
theorem dL_legend_94 : decode cL_legend 94 = .ok (.aload_n 3, 1) := by decide +kernel
theorem dL_legend_95 : decode cL_legend 95 = .ok (.iconst 1, 1) := by decide +kernel
theorem dL_legend_96 : decode cL_legend 96 = .ok (.iaload, 1) := by decide +kernel
theorem dL_legend_97 : decode cL_legend 97 = .ok (.iconst 1, 1) := by decide +kernel
theorem dL_legend_98 : decode cL_legend 98 = .ok (.if_icmp .le 17, 3) := by decide +kernel
theorem dL_legend_101 : decode cL_legend 101 = .ok (.aload_n 3, 1) := by decide +kernel
theorem dL_legend_102 : decode cL_legend 102 = .ok (.iconst 0, 1) := by decide +kernel
theorem dL_legend_103 : decode cL_legend 103 = .ok (.iaload, 1) := by decide +kernel
theorem dL_legend_104 : decode cL_legend 104 = .ok (.aload 4, 2) := by decide +kernel
theorem dL_legend_106 : decode cL_legend 106 = .ok (.iconst 0, 1) := by decide +kernel
theorem dL_legend_107 : decode cL_legend 107 = .ok (.iaload, 1) := by decide +kernel
theorem dL_legend_108 : decode cL_legend 108 = .ok (.if_icmp .ne 7, 3) := by decide +kernel
theorem dL_legend_111 : decode cL_legend 111 = .ok (.iconst 1, 1) := by decide +kernel
theorem dL_legend_112 : decode cL_legend 112 = .ok (.goto 4, 3) := by decide +kernel
theorem dL_legend_115 : decode cL_legend 115 = .ok (.iconst 0, 1) := by decide +kernel
theorem dL_legend_116 : decode cL_legend 116 = .ok (.istore 5, 2) := by decide +kernel
theorem dL_legend_118 : decode cL_legend 118 = .ok (.iconst 0, 1) := by decide +kernel
theorem dL_legend_119 : decode cL_legend 119 = .ok (.istore 6, 2) := by decide +kernel
theorem dL_legend_121 : decode cL_legend 121 = .ok (.iload 6, 2) := by decide +kernel
theorem dL_legend_123 : decode cL_legend 123 = .ok (.aload_n 3, 1) := by decide +kernel
theorem dL_legend_124 : decode cL_legend 124 = .ok (.iconst 0, 1) := by decide +kernel
theorem dL_legend_125 : decode cL_legend 125 = .ok (.iaload, 1) := by decide +kernel
theorem dL_legend_126 : decode cL_legend 126 = .ok (.if_icmp .ge 39, 3) := by decide +kernel
theorem dL_legend_129 : decode cL_legend 129 = .ok (.iload 5, 2) := by decide +kernel
theorem dL_legend_131 : decode cL_legend 131 = .ok (.ifCond .eq 25, 3) := by decide +kernel
theorem dL_legend_134 : decode cL_legend 134 = .ok (.aload_n 3, 1) := by decide +kernel
theorem dL_legend_135 : decode cL_legend 135 = .ok (.bipush 10, 2) := by decide +kernel
theorem dL_legend_137 : decode cL_legend 137 = .ok (.iload 6, 2) := by decide +kernel
theorem dL_legend_139 : decode cL_legend 139 = .ok (.iadd, 1) := by decide +kernel
theorem dL_legend_140 : decode cL_legend 140 = .ok (.iaload, 1) := by decide +kernel
theorem dL_legend_141 : decode cL_legend 141 = .ok (.aload 4, 2) := by decide +kernel
theorem dL_legend_143 : decode cL_legend 143 = .ok (.bipush 10, 2) := by decide +kernel
theorem dL_legend_145 : decode cL_legend 145 = .ok (.iload 6, 2) := by decide +kernel
theorem dL_legend_147 : decode cL_legend 147 = .ok (.iadd, 1) := by decide +kernel
theorem dL_legend_148 : decode cL_legend 148 = .ok (.iaload, 1) := by decide +kernel
theorem dL_legend_149 : decode cL_legend 149 = .ok (.if_icmp .ne 7, 3) := by decide +kernel
theorem dL_legend_152 : decode cL_legend 152 = .ok (.iconst 1, 1) := by decide +kernel
theorem dL_legend_153 : decode cL_legend 153 = .ok (.goto 4, 3) := by decide +kernel
theorem dL_legend_156 : decode cL_legend 156 = .ok (.iconst 0, 1) := by decide +kernel
theorem dL_legend_157 : decode cL_legend 157 = .ok (.istore 5, 2) := by decide +kernel
theorem dL_legend_159 : decode cL_legend 159 = .ok (.iinc 6 1, 3) := by decide +kernel
theorem dL_legend_162 : decode cL_legend 162 = .ok (.goto (-41), 3) := by decide +kernel
theorem dL_legend_165 : decode cL_legend 165 = .ok (.aload_n 3, 1) := by decide +kernel
theorem dL_legend_166 : decode cL_legend 166 = .ok (.iconst 2, 1) := by decide +kernel
theorem dL_legend_167 : decode cL_legend 167 = .ok (.iload 5, 2) := by decide +kernel
theorem dL_legend_169 : decode cL_legend 169 = .ok (.ifCond .eq 7, 3) := by decide +kernel
theorem dL_legend_172 : decode cL_legend 172 = .ok (.iconst 1, 1) := by decide +kernel
theorem dL_legend_173 : decode cL_legend 173 = .ok (.goto 4, 3) := by decide +kernel
theorem dL_legend_176 : decode cL_legend 176 = .ok (.iconst 0, 1) := by decide +kernel
theorem dL_legend_177 : decode cL_legend 177 = .ok (.iastore, 1) := by decide +kernel
theorem dL_legend_178 : decode cL_legend 178 = .ok (.aload_n 3, 1) := by decide +kernel
theorem dL_legend_179 : decode cL_legend 179 = .ok (.bipush 9, 2) := by decide +kernel
theorem dL_legend_181 : decode cL_legend 181 = .ok (.aload_n 3, 1) := by decide +kernel
theorem dL_legend_182 : decode cL_legend 182 = .ok (.iconst 1, 1) := by decide +kernel
theorem dL_legend_183 : decode cL_legend 183 = .ok (.iaload, 1) := by decide +kernel
theorem dL_legend_184 : decode cL_legend 184 = .ok (.iconst 1, 1) := by decide +kernel
theorem dL_legend_185 : decode cL_legend 185 = .ok (.if_icmp .ne 9, 3) := by decide +kernel
theorem dL_legend_188 : decode cL_legend 188 = .ok (.aload_n 3, 1) := by decide +kernel
theorem dL_legend_189 : decode cL_legend 189 = .ok (.iconst 0, 1) := by decide +kernel
theorem dL_legend_190 : decode cL_legend 190 = .ok (.iaload, 1) := by decide +kernel
theorem dL_legend_191 : decode cL_legend 191 = .ok (.goto 7, 3) := by decide +kernel
theorem dL_legend_194 : decode cL_legend 194 = .ok (.aload_n 3, 1) := by decide +kernel
theorem dL_legend_195 : decode cL_legend 195 = .ok (.bipush 9, 2) := by decide +kernel
theorem dL_legend_197 : decode cL_legend 197 = .ok (.iaload, 1) := by decide +kernel
theorem dL_legend_198 : decode cL_legend 198 = .ok (.iastore, 1) := by decide +kernel
theorem dL_legend_199 : decode cL_legend 199 = .ok (.goto (-181), 3) := by decide +kernel
theorem dL_legend_202 : decode cL_legend 202 = .ok (.return_, 1) := by decide +kernel
theorem dL_closes_0 : decode cL_closes 0 = .ok (.iconst 5, 1) := by decide +kernel
theorem dL_closes_1 : decode cL_closes 1 = .ok (.iload_n 1, 1) := by decide +kernel
theorem dL_closes_2 : decode cL_closes 2 = .ok (.imul, 1) := by decide +kernel
theorem dL_closes_3 : decode cL_closes 3 = .ok (.istore_n 2, 1) := by decide +kernel
theorem dL_closes_4 : decode cL_closes 4 = .ok (.iload_n 2, 1) := by decide +kernel
theorem dL_closes_5 : decode cL_closes 5 = .ok (.bipush 55, 2) := by decide +kernel
theorem dL_closes_7 : decode cL_closes 7 = .ok (.if_icmp .ge 17, 3) := by decide +kernel
theorem dL_closes_10 : decode cL_closes 10 = .ok (.aload_n 0, 1) := by decide +kernel
theorem dL_closes_11 : decode cL_closes 11 = .ok (.iload_n 2, 1) := by decide +kernel
theorem dL_closes_12 : decode cL_closes 12 = .ok (.aload_n 0, 1) := by decide +kernel
theorem dL_closes_13 : decode cL_closes 13 = .ok (.iload_n 2, 1) := by decide +kernel
theorem dL_closes_14 : decode cL_closes 14 = .ok (.iconst 5, 1) := by decide +kernel
theorem dL_closes_15 : decode cL_closes 15 = .ok (.iadd, 1) := by decide +kernel
theorem dL_closes_16 : decode cL_closes 16 = .ok (.iaload, 1) := by decide +kernel
theorem dL_closes_17 : decode cL_closes 17 = .ok (.iastore, 1) := by decide +kernel
theorem dL_closes_18 : decode cL_closes 18 = .ok (.iinc 2 1, 3) := by decide +kernel
theorem dL_closes_21 : decode cL_closes 21 = .ok (.goto (-17), 3) := by decide +kernel
theorem dL_closes_24 : decode cL_closes 24 = .ok (.return_, 1) := by decide +kernel
theorem dL_begins_0 : decode cL_begins 0 = .ok (.aload_n 0, 1) := by decide +kernel
theorem dL_begins_1 : decode cL_begins 1 = .ok (.iconst 0, 1) := by decide +kernel
theorem dL_begins_2 : decode cL_begins 2 = .ok (.iconst 3, 1) := by decide +kernel
theorem dL_begins_3 : decode cL_begins 3 = .ok (.iastore, 1) := by decide +kernel
theorem dL_begins_4 : decode cL_begins 4 = .ok (.aload_n 0, 1) := by decide +kernel
theorem dL_begins_5 : decode cL_begins 5 = .ok (.iconst 1, 1) := by decide +kernel
theorem dL_begins_6 : decode cL_begins 6 = .ok (.iconst 1, 1) := by decide +kernel
theorem dL_begins_7 : decode cL_begins 7 = .ok (.iastore, 1) := by decide +kernel
theorem dL_begins_8 : decode cL_begins 8 = .ok (.aload_n 0, 1) := by decide +kernel
theorem dL_begins_9 : decode cL_begins 9 = .ok (.iconst 2, 1) := by decide +kernel
theorem dL_begins_10 : decode cL_begins 10 = .ok (.bipush 20, 2) := by decide +kernel
theorem dL_begins_12 : decode cL_begins 12 = .ok (.iastore, 1) := by decide +kernel
theorem dL_begins_13 : decode cL_begins 13 = .ok (.aload_n 0, 1) := by decide +kernel
theorem dL_begins_14 : decode cL_begins 14 = .ok (.iconst 3, 1) := by decide +kernel
theorem dL_begins_15 : decode cL_begins 15 = .ok (.iconst 5, 1) := by decide +kernel
theorem dL_begins_16 : decode cL_begins 16 = .ok (.iastore, 1) := by decide +kernel
theorem dL_begins_17 : decode cL_begins 17 = .ok (.aload_n 0, 1) := by decide +kernel
theorem dL_begins_18 : decode cL_begins 18 = .ok (.bipush 6, 2) := by decide +kernel
theorem dL_begins_20 : decode cL_begins 20 = .ok (.bipush 100, 2) := by decide +kernel
theorem dL_begins_22 : decode cL_begins 22 = .ok (.iastore, 1) := by decide +kernel
theorem dL_begins_23 : decode cL_begins 23 = .ok (.aload_n 0, 1) := by decide +kernel
theorem dL_begins_24 : decode cL_begins 24 = .ok (.bipush 7, 2) := by decide +kernel
theorem dL_begins_26 : decode cL_begins 26 = .ok (.bipush 100, 2) := by decide +kernel
theorem dL_begins_28 : decode cL_begins 28 = .ok (.iastore, 1) := by decide +kernel
theorem dL_begins_29 : decode cL_begins 29 = .ok (.aload_n 0, 1) := by decide +kernel
theorem dL_begins_30 : decode cL_begins 30 = .ok (.bipush 8, 2) := by decide +kernel
theorem dL_begins_32 : decode cL_begins 32 = .ok (.iconst 5, 1) := by decide +kernel
theorem dL_begins_33 : decode cL_begins 33 = .ok (.iastore, 1) := by decide +kernel
theorem dL_begins_34 : decode cL_begins 34 = .ok (.iconst 0, 1) := by decide +kernel
theorem dL_begins_35 : decode cL_begins 35 = .ok (.istore_n 2, 1) := by decide +kernel
theorem dL_begins_36 : decode cL_begins 36 = .ok (.iload_n 2, 1) := by decide +kernel
theorem dL_begins_37 : decode cL_begins 37 = .ok (.iconst 4, 1) := by decide +kernel
theorem dL_begins_38 : decode cL_begins 38 = .ok (.if_icmp .ge 25, 3) := by decide +kernel
theorem dL_begins_41 : decode cL_begins 41 = .ok (.aload_n 1, 1) := by decide +kernel
theorem dL_begins_42 : decode cL_begins 42 = .ok (.bipush 8, 2) := by decide +kernel
theorem dL_begins_44 : decode cL_begins 44 = .ok (.iload_n 2, 1) := by decide +kernel
theorem dL_begins_45 : decode cL_begins 45 = .ok (.imul, 1) := by decide +kernel
theorem dL_begins_46 : decode cL_begins 46 = .ok (.iload_n 2, 1) := by decide +kernel
theorem dL_begins_47 : decode cL_begins 47 = .ok (.iastore, 1) := by decide +kernel
theorem dL_begins_48 : decode cL_begins 48 = .ok (.aload_n 1, 1) := by decide +kernel
theorem dL_begins_49 : decode cL_begins 49 = .ok (.bipush 8, 2) := by decide +kernel
theorem dL_begins_51 : decode cL_begins 51 = .ok (.iload_n 2, 1) := by decide +kernel
theorem dL_begins_52 : decode cL_begins 52 = .ok (.imul, 1) := by decide +kernel
theorem dL_begins_53 : decode cL_begins 53 = .ok (.iconst 1, 1) := by decide +kernel
theorem dL_begins_54 : decode cL_begins 54 = .ok (.iadd, 1) := by decide +kernel
theorem dL_begins_55 : decode cL_begins 55 = .ok (.iconst (-1), 1) := by decide +kernel
theorem dL_begins_56 : decode cL_begins 56 = .ok (.iastore, 1) := by decide +kernel
theorem dL_begins_57 : decode cL_begins 57 = .ok (.iinc 2 1, 3) := by decide +kernel
theorem dL_begins_60 : decode cL_begins 60 = .ok (.goto (-24), 3) := by decide +kernel
theorem dL_begins_63 : decode cL_begins 63 = .ok (.return_, 1) := by decide +kernel
theorem dL_adds_0 : decode cL_adds 0 = .ok (.aload_n 0, 1) := by decide +kernel
theorem dL_adds_1 : decode cL_adds 1 = .ok (.iload_n 1, 1) := by decide +kernel
theorem dL_adds_2 : decode cL_adds 2 = .ok (.iload_n 2, 1) := by decide +kernel
theorem dL_adds_3 : decode cL_adds 3 = .ok (.iload_n 3, 1) := by decide +kernel
theorem dL_adds_4 : decode cL_adds 4 = .ok (.iload 4, 2) := by decide +kernel
theorem dL_adds_6 : decode cL_adds 6 = .ok (.iload 5, 2) := by decide +kernel
theorem dL_adds_8 : decode cL_adds 8 = .ok (.invokevirtual 105, 3) := by decide +kernel
theorem dL_adds_11 : decode cL_adds 11 = .ok (.ireturn, 1) := by decide +kernel
theorem dL_adds_12 : decode cL_adds 12 = .ok (.astore 6, 2) := by decide +kernel
theorem dL_adds_14 : decode cL_adds 14 = .ok (.ldc 93, 2) := by decide +kernel
theorem dL_adds_16 : decode cL_adds 16 = .ok (.ireturn, 1) := by decide +kernel
theorem dL_adds_17 : decode cL_adds 17 = .ok (.astore 6, 2) := by decide +kernel
theorem dL_adds_19 : decode cL_adds 19 = .ok (.ldc 104, 2) := by decide +kernel
theorem dL_adds_21 : decode cL_adds 21 = .ok (.ireturn, 1) := by decide +kernel
theorem dL_adds_22 : decode cL_adds 22 = .ok (.astore 6, 2) := by decide +kernel
theorem dL_adds_24 : decode cL_adds 24 = .ok (.ldc 88, 2) := by decide +kernel
theorem dL_adds_26 : decode cL_adds 26 = .ok (.ireturn, 1) := by decide +kernel
theorem dL_drops_0 : decode cL_drops 0 = .ok (.aload_n 0, 1) := by decide +kernel
theorem dL_drops_1 : decode cL_drops 1 = .ok (.iload_n 1, 1) := by decide +kernel
theorem dL_drops_2 : decode cL_drops 2 = .ok (.invokevirtual 116, 3) := by decide +kernel
theorem dL_drops_5 : decode cL_drops 5 = .ok (.ireturn, 1) := by decide +kernel
theorem dL_drops_6 : decode cL_drops 6 = .ok (.astore_n 2, 1) := by decide +kernel
theorem dL_drops_7 : decode cL_drops 7 = .ok (.ldc 93, 2) := by decide +kernel
theorem dL_drops_9 : decode cL_drops 9 = .ok (.ireturn, 1) := by decide +kernel
theorem dL_moves_0 : decode cL_moves 0 = .ok (.aload_n 0, 1) := by decide +kernel
theorem dL_moves_1 : decode cL_moves 1 = .ok (.iload_n 1, 1) := by decide +kernel
theorem dL_moves_2 : decode cL_moves 2 = .ok (.iload_n 2, 1) := by decide +kernel
theorem dL_moves_3 : decode cL_moves 3 = .ok (.iload_n 3, 1) := by decide +kernel
theorem dL_moves_4 : decode cL_moves 4 = .ok (.invokevirtual 119, 3) := by decide +kernel
theorem dL_moves_7 : decode cL_moves 7 = .ok (.ireturn, 1) := by decide +kernel
theorem dL_moves_8 : decode cL_moves 8 = .ok (.astore 4, 2) := by decide +kernel
theorem dL_moves_10 : decode cL_moves 10 = .ok (.ldc 93, 2) := by decide +kernel
theorem dL_moves_12 : decode cL_moves 12 = .ok (.ireturn, 1) := by decide +kernel
theorem dL_moves_13 : decode cL_moves 13 = .ok (.astore 4, 2) := by decide +kernel
theorem dL_moves_15 : decode cL_moves 15 = .ok (.ldc 104, 2) := by decide +kernel
theorem dL_moves_17 : decode cL_moves 17 = .ok (.ireturn, 1) := by decide +kernel
theorem dL_windows_0 : decode cL_windows 0 = .ok (.aload_n 0, 1) := by decide +kernel
theorem dL_windows_1 : decode cL_windows 1 = .ok (.iload_n 1, 1) := by decide +kernel
theorem dL_windows_2 : decode cL_windows 2 = .ok (.iload_n 2, 1) := by decide +kernel
theorem dL_windows_3 : decode cL_windows 3 = .ok (.iload_n 3, 1) := by decide +kernel
theorem dL_windows_4 : decode cL_windows 4 = .ok (.iload 4, 2) := by decide +kernel
theorem dL_windows_6 : decode cL_windows 6 = .ok (.iload 5, 2) := by decide +kernel
theorem dL_windows_8 : decode cL_windows 8 = .ok (.invokevirtual 123, 3) := by decide +kernel
theorem dL_windows_11 : decode cL_windows 11 = .ok (.ireturn, 1) := by decide +kernel
theorem dL_windows_12 : decode cL_windows 12 = .ok (.astore 6, 2) := by decide +kernel
theorem dL_windows_14 : decode cL_windows 14 = .ok (.ldc 104, 2) := by decide +kernel
theorem dL_windows_16 : decode cL_windows 16 = .ok (.ireturn, 1) := by decide +kernel
theorem dL_sets_0 : decode cL_sets 0 = .ok (.aload_n 0, 1) := by decide +kernel
theorem dL_sets_1 : decode cL_sets 1 = .ok (.iload_n 1, 1) := by decide +kernel
theorem dL_sets_2 : decode cL_sets 2 = .ok (.iload_n 2, 1) := by decide +kernel
theorem dL_sets_3 : decode cL_sets 3 = .ok (.invokevirtual 126, 3) := by decide +kernel
theorem dL_sets_6 : decode cL_sets 6 = .ok (.ireturn, 1) := by decide +kernel
theorem dL_sets_7 : decode cL_sets 7 = .ok (.astore_n 3, 1) := by decide +kernel
theorem dL_sets_8 : decode cL_sets 8 = .ok (.ldc 104, 2) := by decide +kernel
theorem dL_sets_10 : decode cL_sets 10 = .ok (.ireturn, 1) := by decide +kernel
theorem dL_kinds_0 : decode cL_kinds 0 = .ok (.aload_n 0, 1) := by decide +kernel
theorem dL_kinds_1 : decode cL_kinds 1 = .ok (.iload_n 1, 1) := by decide +kernel
theorem dL_kinds_2 : decode cL_kinds 2 = .ok (.iload_n 2, 1) := by decide +kernel
theorem dL_kinds_3 : decode cL_kinds 3 = .ok (.iload_n 3, 1) := by decide +kernel
theorem dL_kinds_4 : decode cL_kinds 4 = .ok (.invokevirtual 129, 3) := by decide +kernel
theorem dL_kinds_7 : decode cL_kinds 7 = .ok (.ireturn, 1) := by decide +kernel
theorem dL_kinds_8 : decode cL_kinds 8 = .ok (.astore 4, 2) := by decide +kernel
theorem dL_kinds_10 : decode cL_kinds 10 = .ok (.ldc 93, 2) := by decide +kernel
theorem dL_kinds_12 : decode cL_kinds 12 = .ok (.ireturn, 1) := by decide +kernel
theorem dL_kinds_13 : decode cL_kinds 13 = .ok (.astore 4, 2) := by decide +kernel
theorem dL_kinds_15 : decode cL_kinds 15 = .ok (.ldc 104, 2) := by decide +kernel
theorem dL_kinds_17 : decode cL_kinds 17 = .ok (.ireturn, 1) := by decide +kernel
theorem dL_ways_0 : decode cL_ways 0 = .ok (.aload_n 0, 1) := by decide +kernel
theorem dL_ways_1 : decode cL_ways 1 = .ok (.iload_n 1, 1) := by decide +kernel
theorem dL_ways_2 : decode cL_ways 2 = .ok (.iload_n 2, 1) := by decide +kernel
theorem dL_ways_3 : decode cL_ways 3 = .ok (.invokevirtual 132, 3) := by decide +kernel
theorem dL_ways_6 : decode cL_ways 6 = .ok (.ireturn, 1) := by decide +kernel
theorem dL_ways_7 : decode cL_ways 7 = .ok (.astore_n 3, 1) := by decide +kernel
theorem dL_ways_8 : decode cL_ways 8 = .ok (.ldc 93, 2) := by decide +kernel
theorem dL_ways_10 : decode cL_ways 10 = .ok (.ireturn, 1) := by decide +kernel
theorem dL_ways_11 : decode cL_ways 11 = .ok (.astore_n 3, 1) := by decide +kernel
theorem dL_ways_12 : decode cL_ways 12 = .ok (.ldc 104, 2) := by decide +kernel
theorem dL_ways_14 : decode cL_ways 14 = .ok (.ireturn, 1) := by decide +kernel
theorem dL_limits_0 : decode cL_limits 0 = .ok (.aload_n 0, 1) := by decide +kernel
theorem dL_limits_1 : decode cL_limits 1 = .ok (.iload_n 1, 1) := by decide +kernel
theorem dL_limits_2 : decode cL_limits 2 = .ok (.iload_n 2, 1) := by decide +kernel
theorem dL_limits_3 : decode cL_limits 3 = .ok (.invokevirtual 135, 3) := by decide +kernel
theorem dL_limits_6 : decode cL_limits 6 = .ok (.ireturn, 1) := by decide +kernel
theorem dL_limits_7 : decode cL_limits 7 = .ok (.astore_n 3, 1) := by decide +kernel
theorem dL_limits_8 : decode cL_limits 8 = .ok (.ldc 93, 2) := by decide +kernel
theorem dL_limits_10 : decode cL_limits 10 = .ok (.ireturn, 1) := by decide +kernel
theorem dL_limits_11 : decode cL_limits 11 = .ok (.astore_n 3, 1) := by decide +kernel
theorem dL_limits_12 : decode cL_limits 12 = .ok (.ldc 104, 2) := by decide +kernel
theorem dL_limits_14 : decode cL_limits 14 = .ok (.ireturn, 1) := by decide +kernel
theorem dL_limits_15 : decode cL_limits 15 = .ok (.astore_n 3, 1) := by decide +kernel
theorem dL_limits_16 : decode cL_limits 16 = .ok (.ldc 88, 2) := by decide +kernel
theorem dL_limits_18 : decode cL_limits 18 = .ok (.ireturn, 1) := by decide +kernel
theorem dL_valueOf_0 : decode cL_valueOf 0 = .ok (.aload_n 0, 1) := by decide +kernel
theorem dL_valueOf_1 : decode cL_valueOf 1 = .ok (.iload_n 1, 1) := by decide +kernel
theorem dL_valueOf_2 : decode cL_valueOf 2 = .ok (.invokevirtual 138, 3) := by decide +kernel
theorem dL_valueOf_5 : decode cL_valueOf 5 = .ok (.ireturn, 1) := by decide +kernel
theorem dL_valueOf_6 : decode cL_valueOf 6 = .ok (.astore_n 2, 1) := by decide +kernel
theorem dL_valueOf_7 : decode cL_valueOf 7 = .ok (.ldc 104, 2) := by decide +kernel
theorem dL_valueOf_9 : decode cL_valueOf 9 = .ok (.ireturn, 1) := by decide +kernel
theorem dL_signOf_0 : decode cL_signOf 0 = .ok (.aload_n 0, 1) := by decide +kernel
theorem dL_signOf_1 : decode cL_signOf 1 = .ok (.iload_n 1, 1) := by decide +kernel
theorem dL_signOf_2 : decode cL_signOf 2 = .ok (.iload_n 2, 1) := by decide +kernel
theorem dL_signOf_3 : decode cL_signOf 3 = .ok (.invokevirtual 141, 3) := by decide +kernel
theorem dL_signOf_6 : decode cL_signOf 6 = .ok (.ireturn, 1) := by decide +kernel
theorem dL_signOf_7 : decode cL_signOf 7 = .ok (.astore_n 3, 1) := by decide +kernel
theorem dL_signOf_8 : decode cL_signOf 8 = .ok (.ldc 93, 2) := by decide +kernel
theorem dL_signOf_10 : decode cL_signOf 10 = .ok (.ireturn, 1) := by decide +kernel
theorem dL_signOf_11 : decode cL_signOf 11 = .ok (.astore_n 3, 1) := by decide +kernel
theorem dL_signOf_12 : decode cL_signOf 12 = .ok (.ldc 104, 2) := by decide +kernel
theorem dL_signOf_14 : decode cL_signOf 14 = .ok (.ireturn, 1) := by decide +kernel
theorem dL_kindOf_0 : decode cL_kindOf 0 = .ok (.aload_n 0, 1) := by decide +kernel
theorem dL_kindOf_1 : decode cL_kindOf 1 = .ok (.iload_n 1, 1) := by decide +kernel
theorem dL_kindOf_2 : decode cL_kindOf 2 = .ok (.iload_n 2, 1) := by decide +kernel
theorem dL_kindOf_3 : decode cL_kindOf 3 = .ok (.invokevirtual 144, 3) := by decide +kernel
theorem dL_kindOf_6 : decode cL_kindOf 6 = .ok (.ireturn, 1) := by decide +kernel
theorem dL_kindOf_7 : decode cL_kindOf 7 = .ok (.astore_n 3, 1) := by decide +kernel
theorem dL_kindOf_8 : decode cL_kindOf 8 = .ok (.ldc 93, 2) := by decide +kernel
theorem dL_kindOf_10 : decode cL_kindOf 10 = .ok (.ireturn, 1) := by decide +kernel
theorem dL_kindOf_11 : decode cL_kindOf 11 = .ok (.astore_n 3, 1) := by decide +kernel
theorem dL_kindOf_12 : decode cL_kindOf 12 = .ok (.ldc 104, 2) := by decide +kernel
theorem dL_kindOf_14 : decode cL_kindOf 14 = .ok (.ireturn, 1) := by decide +kernel
theorem dL_lineOf_0 : decode cL_lineOf 0 = .ok (.aload_n 0, 1) := by decide +kernel
theorem dL_lineOf_1 : decode cL_lineOf 1 = .ok (.iload_n 1, 1) := by decide +kernel
theorem dL_lineOf_2 : decode cL_lineOf 2 = .ok (.iload_n 2, 1) := by decide +kernel
theorem dL_lineOf_3 : decode cL_lineOf 3 = .ok (.invokevirtual 147, 3) := by decide +kernel
theorem dL_lineOf_6 : decode cL_lineOf 6 = .ok (.ireturn, 1) := by decide +kernel
theorem dL_lineOf_7 : decode cL_lineOf 7 = .ok (.astore_n 3, 1) := by decide +kernel
theorem dL_lineOf_8 : decode cL_lineOf 8 = .ok (.ldc 93, 2) := by decide +kernel
theorem dL_lineOf_10 : decode cL_lineOf 10 = .ok (.ireturn, 1) := by decide +kernel
theorem dL_lineOf_11 : decode cL_lineOf 11 = .ok (.astore_n 3, 1) := by decide +kernel
theorem dL_lineOf_12 : decode cL_lineOf 12 = .ok (.ldc 104, 2) := by decide +kernel
theorem dL_lineOf_14 : decode cL_lineOf 14 = .ok (.ireturn, 1) := by decide +kernel
theorem dL_boxOf_0 : decode cL_boxOf 0 = .ok (.aload_n 0, 1) := by decide +kernel
theorem dL_boxOf_1 : decode cL_boxOf 1 = .ok (.iload_n 1, 1) := by decide +kernel
theorem dL_boxOf_2 : decode cL_boxOf 2 = .ok (.invokevirtual 150, 3) := by decide +kernel
theorem dL_boxOf_5 : decode cL_boxOf 5 = .ok (.ireturn, 1) := by decide +kernel
theorem dL_boxOf_6 : decode cL_boxOf 6 = .ok (.astore_n 2, 1) := by decide +kernel
theorem dL_boxOf_7 : decode cL_boxOf 7 = .ok (.ldc 104, 2) := by decide +kernel
theorem dL_boxOf_9 : decode cL_boxOf 9 = .ok (.ireturn, 1) := by decide +kernel
theorem dL_roundsOf_0 : decode cL_roundsOf 0 = .ok (.aload_n 0, 1) := by decide +kernel
theorem dL_roundsOf_1 : decode cL_roundsOf 1 = .ok (.iload_n 1, 1) := by decide +kernel
theorem dL_roundsOf_2 : decode cL_roundsOf 2 = .ok (.invokevirtual 152, 3) := by decide +kernel
theorem dL_roundsOf_5 : decode cL_roundsOf 5 = .ok (.ireturn, 1) := by decide +kernel
theorem dL_roundsOf_6 : decode cL_roundsOf 6 = .ok (.astore_n 2, 1) := by decide +kernel
theorem dL_roundsOf_7 : decode cL_roundsOf 7 = .ok (.ldc 104, 2) := by decide +kernel
theorem dL_roundsOf_9 : decode cL_roundsOf 9 = .ok (.ireturn, 1) := by decide +kernel
theorem dL_stands_0 : decode cL_stands 0 = .ok (.aload_n 2, 1) := by decide +kernel
theorem dL_stands_1 : decode cL_stands 1 = .ok (.bipush 10, 2) := by decide +kernel
theorem dL_stands_3 : decode cL_stands 3 = .ok (.iload_n 3, 1) := by decide +kernel
theorem dL_stands_4 : decode cL_stands 4 = .ok (.iadd, 1) := by decide +kernel
theorem dL_stands_5 : decode cL_stands 5 = .ok (.iaload, 1) := by decide +kernel
theorem dL_stands_6 : decode cL_stands 6 = .ok (.istore 5, 2) := by decide +kernel
theorem dL_stands_8 : decode cL_stands 8 = .ok (.iload 5, 2) := by decide +kernel
theorem dL_stands_10 : decode cL_stands 10 = .ok (.sipush 20000, 3) := by decide +kernel
theorem dL_stands_13 : decode cL_stands 13 = .ok (.idiv, 1) := by decide +kernel
theorem dL_stands_14 : decode cL_stands 14 = .ok (.istore 6, 2) := by decide +kernel
theorem dL_stands_16 : decode cL_stands 16 = .ok (.iload 5, 2) := by decide +kernel
theorem dL_stands_18 : decode cL_stands 18 = .ok (.bipush 100, 2) := by decide +kernel
theorem dL_stands_20 : decode cL_stands 20 = .ok (.idiv, 1) := by decide +kernel
theorem dL_stands_21 : decode cL_stands 21 = .ok (.bipush 10, 2) := by decide +kernel
theorem dL_stands_23 : decode cL_stands 23 = .ok (.irem, 1) := by decide +kernel
theorem dL_stands_24 : decode cL_stands 24 = .ok (.iconst 1, 1) := by decide +kernel
theorem dL_stands_25 : decode cL_stands 25 = .ok (.isub, 1) := by decide +kernel
theorem dL_stands_26 : decode cL_stands 26 = .ok (.istore 7, 2) := by decide +kernel
theorem dL_stands_28 : decode cL_stands 28 = .ok (.aload_n 0, 1) := by decide +kernel
theorem dL_stands_29 : decode cL_stands 29 = .ok (.aload_n 1, 1) := by decide +kernel
theorem dL_stands_30 : decode cL_stands 30 = .ok (.iload 4, 2) := by decide +kernel
theorem dL_stands_32 : decode cL_stands 32 = .ok (.invokestatic 19, 3) := by decide +kernel
theorem dL_stands_35 : decode cL_stands 35 = .ok (.istore 8, 2) := by decide +kernel
theorem dL_stands_37 : decode cL_stands 37 = .ok (.iload 6, 2) := by decide +kernel
theorem dL_stands_39 : decode cL_stands 39 = .ok (.iconst 2, 1) := by decide +kernel
theorem dL_stands_40 : decode cL_stands 40 = .ok (.if_icmp .ne 29, 3) := by decide +kernel
theorem dL_stands_43 : decode cL_stands 43 = .ok (.aload_n 0, 1) := by decide +kernel
theorem dL_stands_44 : decode cL_stands 44 = .ok (.bipush 8, 2) := by decide +kernel
theorem dL_stands_46 : decode cL_stands 46 = .ok (.aload_n 1, 1) := by decide +kernel
theorem dL_stands_47 : decode cL_stands 47 = .ok (.iconst 5, 1) := by decide +kernel
theorem dL_stands_48 : decode cL_stands 48 = .ok (.iload 4, 2) := by decide +kernel
theorem dL_stands_50 : decode cL_stands 50 = .ok (.imul, 1) := by decide +kernel
theorem dL_stands_51 : decode cL_stands 51 = .ok (.iaload, 1) := by decide +kernel
theorem dL_stands_52 : decode cL_stands 52 = .ok (.imul, 1) := by decide +kernel
theorem dL_stands_53 : decode cL_stands 53 = .ok (.iconst 1, 1) := by decide +kernel
theorem dL_stands_54 : decode cL_stands 54 = .ok (.iadd, 1) := by decide +kernel
theorem dL_stands_55 : decode cL_stands 55 = .ok (.iaload, 1) := by decide +kernel
theorem dL_stands_56 : decode cL_stands 56 = .ok (.iload 7, 2) := by decide +kernel
theorem dL_stands_58 : decode cL_stands 58 = .ok (.if_icmp .ne 7, 3) := by decide +kernel
theorem dL_stands_61 : decode cL_stands 61 = .ok (.iconst 1, 1) := by decide +kernel
theorem dL_stands_62 : decode cL_stands 62 = .ok (.goto 64, 3) := by decide +kernel
theorem dL_stands_65 : decode cL_stands 65 = .ok (.iconst 0, 1) := by decide +kernel
theorem dL_stands_66 : decode cL_stands 66 = .ok (.goto 60, 3) := by decide +kernel
theorem dL_stands_69 : decode cL_stands 69 = .ok (.iload 6, 2) := by decide +kernel
theorem dL_stands_71 : decode cL_stands 71 = .ok (.ifCond .ne 54, 3) := by decide +kernel
theorem dL_stands_74 : decode cL_stands 74 = .ok (.iload 5, 2) := by decide +kernel
theorem dL_stands_76 : decode cL_stands 76 = .ok (.sipush 1000, 3) := by decide +kernel
theorem dL_stands_79 : decode cL_stands 79 = .ok (.idiv, 1) := by decide +kernel
theorem dL_stands_80 : decode cL_stands 80 = .ok (.bipush 20, 2) := by decide +kernel
theorem dL_stands_82 : decode cL_stands 82 = .ok (.irem, 1) := by decide +kernel
theorem dL_stands_83 : decode cL_stands 83 = .ok (.iconst 1, 1) := by decide +kernel
theorem dL_stands_84 : decode cL_stands 84 = .ok (.isub, 1) := by decide +kernel
theorem dL_stands_85 : decode cL_stands 85 = .ok (.aload_n 1, 1) := by decide +kernel
theorem dL_stands_86 : decode cL_stands 86 = .ok (.iconst 5, 1) := by decide +kernel
theorem dL_stands_87 : decode cL_stands 87 = .ok (.iload 4, 2) := by decide +kernel
theorem dL_stands_89 : decode cL_stands 89 = .ok (.imul, 1) := by decide +kernel
theorem dL_stands_90 : decode cL_stands 90 = .ok (.iaload, 1) := by decide +kernel
theorem dL_stands_91 : decode cL_stands 91 = .ok (.if_icmp .ne 34, 3) := by decide +kernel
theorem dL_stands_94 : decode cL_stands 94 = .ok (.iload 8, 2) := by decide +kernel
theorem dL_stands_96 : decode cL_stands 96 = .ok (.iload 5, 2) := by decide +kernel
theorem dL_stands_98 : decode cL_stands 98 = .ok (.bipush 10, 2) := by decide +kernel
theorem dL_stands_100 : decode cL_stands 100 = .ok (.idiv, 1) := by decide +kernel
theorem dL_stands_101 : decode cL_stands 101 = .ok (.bipush 10, 2) := by decide +kernel
theorem dL_stands_103 : decode cL_stands 103 = .ok (.irem, 1) := by decide +kernel
theorem dL_stands_104 : decode cL_stands 104 = .ok (.iconst 1, 1) := by decide +kernel
theorem dL_stands_105 : decode cL_stands 105 = .ok (.isub, 1) := by decide +kernel
theorem dL_stands_106 : decode cL_stands 106 = .ok (.if_icmp .lt 19, 3) := by decide +kernel
theorem dL_stands_109 : decode cL_stands 109 = .ok (.iload 8, 2) := by decide +kernel
theorem dL_stands_111 : decode cL_stands 111 = .ok (.iload 5, 2) := by decide +kernel
theorem dL_stands_113 : decode cL_stands 113 = .ok (.bipush 10, 2) := by decide +kernel
theorem dL_stands_115 : decode cL_stands 115 = .ok (.irem, 1) := by decide +kernel
theorem dL_stands_116 : decode cL_stands 116 = .ok (.iconst 1, 1) := by decide +kernel
theorem dL_stands_117 : decode cL_stands 117 = .ok (.isub, 1) := by decide +kernel
theorem dL_stands_118 : decode cL_stands 118 = .ok (.if_icmp .gt 7, 3) := by decide +kernel
theorem dL_stands_121 : decode cL_stands 121 = .ok (.iconst 1, 1) := by decide +kernel
theorem dL_stands_122 : decode cL_stands 122 = .ok (.goto 4, 3) := by decide +kernel
theorem dL_stands_125 : decode cL_stands 125 = .ok (.iconst 0, 1) := by decide +kernel
theorem dL_stands_126 : decode cL_stands 126 = .ok (.istore 9, 2) := by decide +kernel
theorem dL_stands_128 : decode cL_stands 128 = .ok (.iload 9, 2) := by decide +kernel
theorem dL_stands_130 : decode cL_stands 130 = .ok (.ifCond .eq 19, 3) := by decide +kernel
theorem dL_stands_133 : decode cL_stands 133 = .ok (.aload_n 2, 1) := by decide +kernel
theorem dL_stands_134 : decode cL_stands 134 = .ok (.iconst 3, 1) := by decide +kernel
theorem dL_stands_135 : decode cL_stands 135 = .ok (.iaload, 1) := by decide +kernel
theorem dL_stands_136 : decode cL_stands 136 = .ok (.iload 4, 2) := by decide +kernel
theorem dL_stands_138 : decode cL_stands 138 = .ok (.ishr, 1) := by decide +kernel
theorem dL_stands_139 : decode cL_stands 139 = .ok (.iconst 1, 1) := by decide +kernel
theorem dL_stands_140 : decode cL_stands 140 = .ok (.iand, 1) := by decide +kernel
theorem dL_stands_141 : decode cL_stands 141 = .ok (.iconst 1, 1) := by decide +kernel
theorem dL_stands_142 : decode cL_stands 142 = .ok (.if_icmp .ne 7, 3) := by decide +kernel
theorem dL_stands_145 : decode cL_stands 145 = .ok (.iconst 1, 1) := by decide +kernel
theorem dL_stands_146 : decode cL_stands 146 = .ok (.goto 4, 3) := by decide +kernel
theorem dL_stands_149 : decode cL_stands 149 = .ok (.iconst 0, 1) := by decide +kernel
theorem dL_stands_150 : decode cL_stands 150 = .ok (.ireturn, 1) := by decide +kernel
end
section
/-! A store: what the cells hold, as whole numbers; what a piece of code needs, as a proposition: joins (wj) and loops (wl) -/
abbrev St : Type := Nat → Int → Int
abbrev Rg (x : Int) : Prop := -2147483648 ≤ x ∧ x ≤ 2147483647
abbrev Bl (x : Int) : Prop := x = 0 ∨ x = 1
def iI (x : Int) : Int32 := Int32.ofInt x
def iJ (x : Int) : Int64 := Int64.ofInt x
def up2 (σ : St) (c : Nat) (i v : Int) : St := fun c1 i1 => if c1 = c ∧ i1 = i then v else σ c1 i1
def cpy2 (σ : St) (c0 : Nat) (sp : Int) (c1 : Nat) (dp n : Int) : St := fun c i => if c = c1 ∧ dp ≤ i ∧ i < dp + n then σ c0 (sp + (i - dp)) else σ c i
def hsetI (i : Int) : Int := if i = 0 then 6 else if i = 1 then 4 else if i = 2 then 60 else 20
def wj0 (J : Prop) (B : Prop → Prop) : Prop := B J
theorem wj0_intro {J : Prop} {B : Prop → Prop} (P : Prop) (hJ : P → J) (hB : ∀ J1 : Prop, (P → J1) → B J1) : wj0 J B := hB J hJ
def wj0s (J : St → Prop) (B : (St → Prop) → Prop) : Prop := B J
theorem wj0s_intro {J : St → Prop} {B : (St → Prop) → Prop} (P : St → Prop) (hJ : ∀ (τ : St) , P τ → J τ) (hB : ∀ J1 : St → Prop, (∀ (τ : St) , P τ → J1 τ) → B J1) : wj0s J B := hB J hJ
def wl0s (f : St → (St → Prop) → Prop) : Nat → St → Prop
  | 0, _ => False
  | n + 1, τ => f τ (wl0s f n)
theorem wl0s_run {f : St → (St → Prop) → Prop} {P : St → Prop} (hs : ∀ (τ : St) (ag : St → Prop), (∀ (τ1 : St) , ag τ1 → P τ1) → f τ ag → P τ) {τ : St} (h : ∃ n, wl0s f n τ) : P τ := by
  obtain ⟨n, h⟩ := h
  induction n generalizing τ with
  | zero => exact h.elim
  | succ n ih => exact hs τ (wl0s f n) (fun τ1 h1 => ih h1) h
theorem wl0s_inv {f : St → (St → Prop) → Prop} (Inv : St → Prop) (μ : St → Nat) (hs : ∀ (τ : St) (ag : St → Prop), Inv τ → (∀ (τ1 : St) , Inv τ1 → μ τ1 < μ τ → ag τ1) → f τ ag) {τ : St} (h : Inv τ) : ∃ n, wl0s f n τ := by
  have key : ∀ N : Nat, ∀ (τ : St) , Inv τ → μ τ < N → wl0s f N τ := by
    intro N
    induction N with
    | zero => intro τ _ hl; exact absurd hl (Nat.not_lt_zero _)
    | succ N ih => intro τ hI hl; exact hs τ (wl0s f N) hI (fun τ1 hI1 hl1 => ih τ1 hI1 (by omega))
  exact ⟨μ τ + 1, key _ τ h (Nat.lt_succ_self _)⟩
theorem wl0s_invB {f : St → (St → Prop) → Prop} (B : Nat) (Inv : St → Prop) (μ : St → Nat) (hs : ∀ (τ : St) (ag : St → Prop), Inv τ → (∀ (τ1 : St) , Inv τ1 → μ τ1 < μ τ → ag τ1) → f τ ag) {τ : St} (h : Inv τ) (hB : μ τ + 1 ≤ B) : ∃ n, n ≤ B ∧ wl0s f n τ := by
  have key : ∀ N : Nat, ∀ (τ : St) , Inv τ → μ τ < N → wl0s f N τ := by
    intro N
    induction N with
    | zero => intro τ _ hl; exact absurd hl (Nat.not_lt_zero _)
    | succ N ih => intro τ hI hl; exact hs τ (wl0s f N) hI (fun τ1 hI1 hl1 => ih τ1 hI1 (by omega))
  exact ⟨μ τ + 1, hB, key _ τ h (Nat.lt_succ_self _)⟩
def wj1 (J : Int → Prop) (B : (Int → Prop) → Prop) : Prop := B J
theorem wj1_intro {J : Int → Prop} {B : (Int → Prop) → Prop} (P : Int → Prop) (hJ : ∀ (ya : Int) , P ya → J ya) (hB : ∀ J1 : Int → Prop, (∀ (ya : Int) , P ya → J1 ya) → B J1) : wj1 J B := hB J hJ
def wl1 (f : Int → (Int → Prop) → Prop) : Nat → Int → Prop
  | 0, _ => False
  | n + 1, ya => f ya (wl1 f n)
theorem wl1_run {f : Int → (Int → Prop) → Prop} {P : Int → Prop} (hs : ∀ (ya : Int) (ag : Int → Prop), (∀ (ya1 : Int) , ag ya1 → P ya1) → f ya ag → P ya) {ya : Int} (h : ∃ n, wl1 f n ya) : P ya := by
  obtain ⟨n, h⟩ := h
  induction n generalizing ya with
  | zero => exact h.elim
  | succ n ih => exact hs ya (wl1 f n) (fun ya1 h1 => ih h1) h
theorem wl1_inv {f : Int → (Int → Prop) → Prop} (Inv : Int → Prop) (μ : Int → Nat) (hs : ∀ (ya : Int) (ag : Int → Prop), Inv ya → (∀ (ya1 : Int) , Inv ya1 → μ ya1 < μ ya → ag ya1) → f ya ag) {ya : Int} (h : Inv ya) : ∃ n, wl1 f n ya := by
  have key : ∀ N : Nat, ∀ (ya : Int) , Inv ya → μ ya < N → wl1 f N ya := by
    intro N
    induction N with
    | zero => intro ya _ hl; exact absurd hl (Nat.not_lt_zero _)
    | succ N ih => intro ya hI hl; exact hs ya (wl1 f N) hI (fun ya1 hI1 hl1 => ih ya1 hI1 (by omega))
  exact ⟨μ ya + 1, key _ ya h (Nat.lt_succ_self _)⟩
theorem wl1_invB {f : Int → (Int → Prop) → Prop} (B : Nat) (Inv : Int → Prop) (μ : Int → Nat) (hs : ∀ (ya : Int) (ag : Int → Prop), Inv ya → (∀ (ya1 : Int) , Inv ya1 → μ ya1 < μ ya → ag ya1) → f ya ag) {ya : Int} (h : Inv ya) (hB : μ ya + 1 ≤ B) : ∃ n, n ≤ B ∧ wl1 f n ya := by
  have key : ∀ N : Nat, ∀ (ya : Int) , Inv ya → μ ya < N → wl1 f N ya := by
    intro N
    induction N with
    | zero => intro ya _ hl; exact absurd hl (Nat.not_lt_zero _)
    | succ N ih => intro ya hI hl; exact hs ya (wl1 f N) hI (fun ya1 hI1 hl1 => ih ya1 hI1 (by omega))
  exact ⟨μ ya + 1, hB, key _ ya h (Nat.lt_succ_self _)⟩
def wj1s (J : Int → St → Prop) (B : (Int → St → Prop) → Prop) : Prop := B J
theorem wj1s_intro {J : Int → St → Prop} {B : (Int → St → Prop) → Prop} (P : Int → St → Prop) (hJ : ∀ (ya : Int) (τ : St) , P ya τ → J ya τ) (hB : ∀ J1 : Int → St → Prop, (∀ (ya : Int) (τ : St) , P ya τ → J1 ya τ) → B J1) : wj1s J B := hB J hJ
def wl1s (f : Int → St → (Int → St → Prop) → Prop) : Nat → Int → St → Prop
  | 0, _, _ => False
  | n + 1, ya, τ => f ya τ (wl1s f n)
theorem wl1s_run {f : Int → St → (Int → St → Prop) → Prop} {P : Int → St → Prop} (hs : ∀ (ya : Int) (τ : St) (ag : Int → St → Prop), (∀ (ya1 : Int) (τ1 : St) , ag ya1 τ1 → P ya1 τ1) → f ya τ ag → P ya τ) {ya : Int} {τ : St} (h : ∃ n, wl1s f n ya τ) : P ya τ := by
  obtain ⟨n, h⟩ := h
  induction n generalizing ya τ with
  | zero => exact h.elim
  | succ n ih => exact hs ya τ (wl1s f n) (fun ya1 τ1 h1 => ih h1) h
theorem wl1s_inv {f : Int → St → (Int → St → Prop) → Prop} (Inv : Int → St → Prop) (μ : Int → St → Nat) (hs : ∀ (ya : Int) (τ : St) (ag : Int → St → Prop), Inv ya τ → (∀ (ya1 : Int) (τ1 : St) , Inv ya1 τ1 → μ ya1 τ1 < μ ya τ → ag ya1 τ1) → f ya τ ag) {ya : Int} {τ : St} (h : Inv ya τ) : ∃ n, wl1s f n ya τ := by
  have key : ∀ N : Nat, ∀ (ya : Int) (τ : St) , Inv ya τ → μ ya τ < N → wl1s f N ya τ := by
    intro N
    induction N with
    | zero => intro ya τ _ hl; exact absurd hl (Nat.not_lt_zero _)
    | succ N ih => intro ya τ hI hl; exact hs ya τ (wl1s f N) hI (fun ya1 τ1 hI1 hl1 => ih ya1 τ1 hI1 (by omega))
  exact ⟨μ ya τ + 1, key _ ya τ h (Nat.lt_succ_self _)⟩
theorem wl1s_invB {f : Int → St → (Int → St → Prop) → Prop} (B : Nat) (Inv : Int → St → Prop) (μ : Int → St → Nat) (hs : ∀ (ya : Int) (τ : St) (ag : Int → St → Prop), Inv ya τ → (∀ (ya1 : Int) (τ1 : St) , Inv ya1 τ1 → μ ya1 τ1 < μ ya τ → ag ya1 τ1) → f ya τ ag) {ya : Int} {τ : St} (h : Inv ya τ) (hB : μ ya τ + 1 ≤ B) : ∃ n, n ≤ B ∧ wl1s f n ya τ := by
  have key : ∀ N : Nat, ∀ (ya : Int) (τ : St) , Inv ya τ → μ ya τ < N → wl1s f N ya τ := by
    intro N
    induction N with
    | zero => intro ya τ _ hl; exact absurd hl (Nat.not_lt_zero _)
    | succ N ih => intro ya τ hI hl; exact hs ya τ (wl1s f N) hI (fun ya1 τ1 hI1 hl1 => ih ya1 τ1 hI1 (by omega))
  exact ⟨μ ya τ + 1, hB, key _ ya τ h (Nat.lt_succ_self _)⟩
def wj2 (J : Int → Int → Prop) (B : (Int → Int → Prop) → Prop) : Prop := B J
theorem wj2_intro {J : Int → Int → Prop} {B : (Int → Int → Prop) → Prop} (P : Int → Int → Prop) (hJ : ∀ (ya yb : Int) , P ya yb → J ya yb) (hB : ∀ J1 : Int → Int → Prop, (∀ (ya yb : Int) , P ya yb → J1 ya yb) → B J1) : wj2 J B := hB J hJ
def wl2 (f : Int → Int → (Int → Int → Prop) → Prop) : Nat → Int → Int → Prop
  | 0, _, _ => False
  | n + 1, ya, yb => f ya yb (wl2 f n)
theorem wl2_run {f : Int → Int → (Int → Int → Prop) → Prop} {P : Int → Int → Prop} (hs : ∀ (ya yb : Int) (ag : Int → Int → Prop), (∀ (ya1 yb1 : Int) , ag ya1 yb1 → P ya1 yb1) → f ya yb ag → P ya yb) {ya yb : Int} (h : ∃ n, wl2 f n ya yb) : P ya yb := by
  obtain ⟨n, h⟩ := h
  induction n generalizing ya yb with
  | zero => exact h.elim
  | succ n ih => exact hs ya yb (wl2 f n) (fun ya1 yb1 h1 => ih h1) h
theorem wl2_inv {f : Int → Int → (Int → Int → Prop) → Prop} (Inv : Int → Int → Prop) (μ : Int → Int → Nat) (hs : ∀ (ya yb : Int) (ag : Int → Int → Prop), Inv ya yb → (∀ (ya1 yb1 : Int) , Inv ya1 yb1 → μ ya1 yb1 < μ ya yb → ag ya1 yb1) → f ya yb ag) {ya yb : Int} (h : Inv ya yb) : ∃ n, wl2 f n ya yb := by
  have key : ∀ N : Nat, ∀ (ya yb : Int) , Inv ya yb → μ ya yb < N → wl2 f N ya yb := by
    intro N
    induction N with
    | zero => intro ya yb _ hl; exact absurd hl (Nat.not_lt_zero _)
    | succ N ih => intro ya yb hI hl; exact hs ya yb (wl2 f N) hI (fun ya1 yb1 hI1 hl1 => ih ya1 yb1 hI1 (by omega))
  exact ⟨μ ya yb + 1, key _ ya yb h (Nat.lt_succ_self _)⟩
theorem wl2_invB {f : Int → Int → (Int → Int → Prop) → Prop} (B : Nat) (Inv : Int → Int → Prop) (μ : Int → Int → Nat) (hs : ∀ (ya yb : Int) (ag : Int → Int → Prop), Inv ya yb → (∀ (ya1 yb1 : Int) , Inv ya1 yb1 → μ ya1 yb1 < μ ya yb → ag ya1 yb1) → f ya yb ag) {ya yb : Int} (h : Inv ya yb) (hB : μ ya yb + 1 ≤ B) : ∃ n, n ≤ B ∧ wl2 f n ya yb := by
  have key : ∀ N : Nat, ∀ (ya yb : Int) , Inv ya yb → μ ya yb < N → wl2 f N ya yb := by
    intro N
    induction N with
    | zero => intro ya yb _ hl; exact absurd hl (Nat.not_lt_zero _)
    | succ N ih => intro ya yb hI hl; exact hs ya yb (wl2 f N) hI (fun ya1 yb1 hI1 hl1 => ih ya1 yb1 hI1 (by omega))
  exact ⟨μ ya yb + 1, hB, key _ ya yb h (Nat.lt_succ_self _)⟩
def wj2s (J : Int → Int → St → Prop) (B : (Int → Int → St → Prop) → Prop) : Prop := B J
theorem wj2s_intro {J : Int → Int → St → Prop} {B : (Int → Int → St → Prop) → Prop} (P : Int → Int → St → Prop) (hJ : ∀ (ya yb : Int) (τ : St) , P ya yb τ → J ya yb τ) (hB : ∀ J1 : Int → Int → St → Prop, (∀ (ya yb : Int) (τ : St) , P ya yb τ → J1 ya yb τ) → B J1) : wj2s J B := hB J hJ
def wl2s (f : Int → Int → St → (Int → Int → St → Prop) → Prop) : Nat → Int → Int → St → Prop
  | 0, _, _, _ => False
  | n + 1, ya, yb, τ => f ya yb τ (wl2s f n)
theorem wl2s_run {f : Int → Int → St → (Int → Int → St → Prop) → Prop} {P : Int → Int → St → Prop} (hs : ∀ (ya yb : Int) (τ : St) (ag : Int → Int → St → Prop), (∀ (ya1 yb1 : Int) (τ1 : St) , ag ya1 yb1 τ1 → P ya1 yb1 τ1) → f ya yb τ ag → P ya yb τ) {ya yb : Int} {τ : St} (h : ∃ n, wl2s f n ya yb τ) : P ya yb τ := by
  obtain ⟨n, h⟩ := h
  induction n generalizing ya yb τ with
  | zero => exact h.elim
  | succ n ih => exact hs ya yb τ (wl2s f n) (fun ya1 yb1 τ1 h1 => ih h1) h
theorem wl2s_inv {f : Int → Int → St → (Int → Int → St → Prop) → Prop} (Inv : Int → Int → St → Prop) (μ : Int → Int → St → Nat) (hs : ∀ (ya yb : Int) (τ : St) (ag : Int → Int → St → Prop), Inv ya yb τ → (∀ (ya1 yb1 : Int) (τ1 : St) , Inv ya1 yb1 τ1 → μ ya1 yb1 τ1 < μ ya yb τ → ag ya1 yb1 τ1) → f ya yb τ ag) {ya yb : Int} {τ : St} (h : Inv ya yb τ) : ∃ n, wl2s f n ya yb τ := by
  have key : ∀ N : Nat, ∀ (ya yb : Int) (τ : St) , Inv ya yb τ → μ ya yb τ < N → wl2s f N ya yb τ := by
    intro N
    induction N with
    | zero => intro ya yb τ _ hl; exact absurd hl (Nat.not_lt_zero _)
    | succ N ih => intro ya yb τ hI hl; exact hs ya yb τ (wl2s f N) hI (fun ya1 yb1 τ1 hI1 hl1 => ih ya1 yb1 τ1 hI1 (by omega))
  exact ⟨μ ya yb τ + 1, key _ ya yb τ h (Nat.lt_succ_self _)⟩
theorem wl2s_invB {f : Int → Int → St → (Int → Int → St → Prop) → Prop} (B : Nat) (Inv : Int → Int → St → Prop) (μ : Int → Int → St → Nat) (hs : ∀ (ya yb : Int) (τ : St) (ag : Int → Int → St → Prop), Inv ya yb τ → (∀ (ya1 yb1 : Int) (τ1 : St) , Inv ya1 yb1 τ1 → μ ya1 yb1 τ1 < μ ya yb τ → ag ya1 yb1 τ1) → f ya yb τ ag) {ya yb : Int} {τ : St} (h : Inv ya yb τ) (hB : μ ya yb τ + 1 ≤ B) : ∃ n, n ≤ B ∧ wl2s f n ya yb τ := by
  have key : ∀ N : Nat, ∀ (ya yb : Int) (τ : St) , Inv ya yb τ → μ ya yb τ < N → wl2s f N ya yb τ := by
    intro N
    induction N with
    | zero => intro ya yb τ _ hl; exact absurd hl (Nat.not_lt_zero _)
    | succ N ih => intro ya yb τ hI hl; exact hs ya yb τ (wl2s f N) hI (fun ya1 yb1 τ1 hI1 hl1 => ih ya1 yb1 τ1 hI1 (by omega))
  exact ⟨μ ya yb τ + 1, hB, key _ ya yb τ h (Nat.lt_succ_self _)⟩
def wj3 (J : Int → Int → Int → Prop) (B : (Int → Int → Int → Prop) → Prop) : Prop := B J
theorem wj3_intro {J : Int → Int → Int → Prop} {B : (Int → Int → Int → Prop) → Prop} (P : Int → Int → Int → Prop) (hJ : ∀ (ya yb yc : Int) , P ya yb yc → J ya yb yc) (hB : ∀ J1 : Int → Int → Int → Prop, (∀ (ya yb yc : Int) , P ya yb yc → J1 ya yb yc) → B J1) : wj3 J B := hB J hJ
def wl3 (f : Int → Int → Int → (Int → Int → Int → Prop) → Prop) : Nat → Int → Int → Int → Prop
  | 0, _, _, _ => False
  | n + 1, ya, yb, yc => f ya yb yc (wl3 f n)
theorem wl3_run {f : Int → Int → Int → (Int → Int → Int → Prop) → Prop} {P : Int → Int → Int → Prop} (hs : ∀ (ya yb yc : Int) (ag : Int → Int → Int → Prop), (∀ (ya1 yb1 yc1 : Int) , ag ya1 yb1 yc1 → P ya1 yb1 yc1) → f ya yb yc ag → P ya yb yc) {ya yb yc : Int} (h : ∃ n, wl3 f n ya yb yc) : P ya yb yc := by
  obtain ⟨n, h⟩ := h
  induction n generalizing ya yb yc with
  | zero => exact h.elim
  | succ n ih => exact hs ya yb yc (wl3 f n) (fun ya1 yb1 yc1 h1 => ih h1) h
theorem wl3_inv {f : Int → Int → Int → (Int → Int → Int → Prop) → Prop} (Inv : Int → Int → Int → Prop) (μ : Int → Int → Int → Nat) (hs : ∀ (ya yb yc : Int) (ag : Int → Int → Int → Prop), Inv ya yb yc → (∀ (ya1 yb1 yc1 : Int) , Inv ya1 yb1 yc1 → μ ya1 yb1 yc1 < μ ya yb yc → ag ya1 yb1 yc1) → f ya yb yc ag) {ya yb yc : Int} (h : Inv ya yb yc) : ∃ n, wl3 f n ya yb yc := by
  have key : ∀ N : Nat, ∀ (ya yb yc : Int) , Inv ya yb yc → μ ya yb yc < N → wl3 f N ya yb yc := by
    intro N
    induction N with
    | zero => intro ya yb yc _ hl; exact absurd hl (Nat.not_lt_zero _)
    | succ N ih => intro ya yb yc hI hl; exact hs ya yb yc (wl3 f N) hI (fun ya1 yb1 yc1 hI1 hl1 => ih ya1 yb1 yc1 hI1 (by omega))
  exact ⟨μ ya yb yc + 1, key _ ya yb yc h (Nat.lt_succ_self _)⟩
theorem wl3_invB {f : Int → Int → Int → (Int → Int → Int → Prop) → Prop} (B : Nat) (Inv : Int → Int → Int → Prop) (μ : Int → Int → Int → Nat) (hs : ∀ (ya yb yc : Int) (ag : Int → Int → Int → Prop), Inv ya yb yc → (∀ (ya1 yb1 yc1 : Int) , Inv ya1 yb1 yc1 → μ ya1 yb1 yc1 < μ ya yb yc → ag ya1 yb1 yc1) → f ya yb yc ag) {ya yb yc : Int} (h : Inv ya yb yc) (hB : μ ya yb yc + 1 ≤ B) : ∃ n, n ≤ B ∧ wl3 f n ya yb yc := by
  have key : ∀ N : Nat, ∀ (ya yb yc : Int) , Inv ya yb yc → μ ya yb yc < N → wl3 f N ya yb yc := by
    intro N
    induction N with
    | zero => intro ya yb yc _ hl; exact absurd hl (Nat.not_lt_zero _)
    | succ N ih => intro ya yb yc hI hl; exact hs ya yb yc (wl3 f N) hI (fun ya1 yb1 yc1 hI1 hl1 => ih ya1 yb1 yc1 hI1 (by omega))
  exact ⟨μ ya yb yc + 1, hB, key _ ya yb yc h (Nat.lt_succ_self _)⟩
def wj3s (J : Int → Int → Int → St → Prop) (B : (Int → Int → Int → St → Prop) → Prop) : Prop := B J
theorem wj3s_intro {J : Int → Int → Int → St → Prop} {B : (Int → Int → Int → St → Prop) → Prop} (P : Int → Int → Int → St → Prop) (hJ : ∀ (ya yb yc : Int) (τ : St) , P ya yb yc τ → J ya yb yc τ) (hB : ∀ J1 : Int → Int → Int → St → Prop, (∀ (ya yb yc : Int) (τ : St) , P ya yb yc τ → J1 ya yb yc τ) → B J1) : wj3s J B := hB J hJ
def wl3s (f : Int → Int → Int → St → (Int → Int → Int → St → Prop) → Prop) : Nat → Int → Int → Int → St → Prop
  | 0, _, _, _, _ => False
  | n + 1, ya, yb, yc, τ => f ya yb yc τ (wl3s f n)
theorem wl3s_run {f : Int → Int → Int → St → (Int → Int → Int → St → Prop) → Prop} {P : Int → Int → Int → St → Prop} (hs : ∀ (ya yb yc : Int) (τ : St) (ag : Int → Int → Int → St → Prop), (∀ (ya1 yb1 yc1 : Int) (τ1 : St) , ag ya1 yb1 yc1 τ1 → P ya1 yb1 yc1 τ1) → f ya yb yc τ ag → P ya yb yc τ) {ya yb yc : Int} {τ : St} (h : ∃ n, wl3s f n ya yb yc τ) : P ya yb yc τ := by
  obtain ⟨n, h⟩ := h
  induction n generalizing ya yb yc τ with
  | zero => exact h.elim
  | succ n ih => exact hs ya yb yc τ (wl3s f n) (fun ya1 yb1 yc1 τ1 h1 => ih h1) h
theorem wl3s_inv {f : Int → Int → Int → St → (Int → Int → Int → St → Prop) → Prop} (Inv : Int → Int → Int → St → Prop) (μ : Int → Int → Int → St → Nat) (hs : ∀ (ya yb yc : Int) (τ : St) (ag : Int → Int → Int → St → Prop), Inv ya yb yc τ → (∀ (ya1 yb1 yc1 : Int) (τ1 : St) , Inv ya1 yb1 yc1 τ1 → μ ya1 yb1 yc1 τ1 < μ ya yb yc τ → ag ya1 yb1 yc1 τ1) → f ya yb yc τ ag) {ya yb yc : Int} {τ : St} (h : Inv ya yb yc τ) : ∃ n, wl3s f n ya yb yc τ := by
  have key : ∀ N : Nat, ∀ (ya yb yc : Int) (τ : St) , Inv ya yb yc τ → μ ya yb yc τ < N → wl3s f N ya yb yc τ := by
    intro N
    induction N with
    | zero => intro ya yb yc τ _ hl; exact absurd hl (Nat.not_lt_zero _)
    | succ N ih => intro ya yb yc τ hI hl; exact hs ya yb yc τ (wl3s f N) hI (fun ya1 yb1 yc1 τ1 hI1 hl1 => ih ya1 yb1 yc1 τ1 hI1 (by omega))
  exact ⟨μ ya yb yc τ + 1, key _ ya yb yc τ h (Nat.lt_succ_self _)⟩
theorem wl3s_invB {f : Int → Int → Int → St → (Int → Int → Int → St → Prop) → Prop} (B : Nat) (Inv : Int → Int → Int → St → Prop) (μ : Int → Int → Int → St → Nat) (hs : ∀ (ya yb yc : Int) (τ : St) (ag : Int → Int → Int → St → Prop), Inv ya yb yc τ → (∀ (ya1 yb1 yc1 : Int) (τ1 : St) , Inv ya1 yb1 yc1 τ1 → μ ya1 yb1 yc1 τ1 < μ ya yb yc τ → ag ya1 yb1 yc1 τ1) → f ya yb yc τ ag) {ya yb yc : Int} {τ : St} (h : Inv ya yb yc τ) (hB : μ ya yb yc τ + 1 ≤ B) : ∃ n, n ≤ B ∧ wl3s f n ya yb yc τ := by
  have key : ∀ N : Nat, ∀ (ya yb yc : Int) (τ : St) , Inv ya yb yc τ → μ ya yb yc τ < N → wl3s f N ya yb yc τ := by
    intro N
    induction N with
    | zero => intro ya yb yc τ _ hl; exact absurd hl (Nat.not_lt_zero _)
    | succ N ih => intro ya yb yc τ hI hl; exact hs ya yb yc τ (wl3s f N) hI (fun ya1 yb1 yc1 τ1 hI1 hl1 => ih ya1 yb1 yc1 τ1 hI1 (by omega))
  exact ⟨μ ya yb yc τ + 1, hB, key _ ya yb yc τ h (Nat.lt_succ_self _)⟩
def wj4 (J : Int → Int → Int → Int → Prop) (B : (Int → Int → Int → Int → Prop) → Prop) : Prop := B J
theorem wj4_intro {J : Int → Int → Int → Int → Prop} {B : (Int → Int → Int → Int → Prop) → Prop} (P : Int → Int → Int → Int → Prop) (hJ : ∀ (ya yb yc yd : Int) , P ya yb yc yd → J ya yb yc yd) (hB : ∀ J1 : Int → Int → Int → Int → Prop, (∀ (ya yb yc yd : Int) , P ya yb yc yd → J1 ya yb yc yd) → B J1) : wj4 J B := hB J hJ
def wl4 (f : Int → Int → Int → Int → (Int → Int → Int → Int → Prop) → Prop) : Nat → Int → Int → Int → Int → Prop
  | 0, _, _, _, _ => False
  | n + 1, ya, yb, yc, yd => f ya yb yc yd (wl4 f n)
theorem wl4_run {f : Int → Int → Int → Int → (Int → Int → Int → Int → Prop) → Prop} {P : Int → Int → Int → Int → Prop} (hs : ∀ (ya yb yc yd : Int) (ag : Int → Int → Int → Int → Prop), (∀ (ya1 yb1 yc1 yd1 : Int) , ag ya1 yb1 yc1 yd1 → P ya1 yb1 yc1 yd1) → f ya yb yc yd ag → P ya yb yc yd) {ya yb yc yd : Int} (h : ∃ n, wl4 f n ya yb yc yd) : P ya yb yc yd := by
  obtain ⟨n, h⟩ := h
  induction n generalizing ya yb yc yd with
  | zero => exact h.elim
  | succ n ih => exact hs ya yb yc yd (wl4 f n) (fun ya1 yb1 yc1 yd1 h1 => ih h1) h
theorem wl4_inv {f : Int → Int → Int → Int → (Int → Int → Int → Int → Prop) → Prop} (Inv : Int → Int → Int → Int → Prop) (μ : Int → Int → Int → Int → Nat) (hs : ∀ (ya yb yc yd : Int) (ag : Int → Int → Int → Int → Prop), Inv ya yb yc yd → (∀ (ya1 yb1 yc1 yd1 : Int) , Inv ya1 yb1 yc1 yd1 → μ ya1 yb1 yc1 yd1 < μ ya yb yc yd → ag ya1 yb1 yc1 yd1) → f ya yb yc yd ag) {ya yb yc yd : Int} (h : Inv ya yb yc yd) : ∃ n, wl4 f n ya yb yc yd := by
  have key : ∀ N : Nat, ∀ (ya yb yc yd : Int) , Inv ya yb yc yd → μ ya yb yc yd < N → wl4 f N ya yb yc yd := by
    intro N
    induction N with
    | zero => intro ya yb yc yd _ hl; exact absurd hl (Nat.not_lt_zero _)
    | succ N ih => intro ya yb yc yd hI hl; exact hs ya yb yc yd (wl4 f N) hI (fun ya1 yb1 yc1 yd1 hI1 hl1 => ih ya1 yb1 yc1 yd1 hI1 (by omega))
  exact ⟨μ ya yb yc yd + 1, key _ ya yb yc yd h (Nat.lt_succ_self _)⟩
theorem wl4_invB {f : Int → Int → Int → Int → (Int → Int → Int → Int → Prop) → Prop} (B : Nat) (Inv : Int → Int → Int → Int → Prop) (μ : Int → Int → Int → Int → Nat) (hs : ∀ (ya yb yc yd : Int) (ag : Int → Int → Int → Int → Prop), Inv ya yb yc yd → (∀ (ya1 yb1 yc1 yd1 : Int) , Inv ya1 yb1 yc1 yd1 → μ ya1 yb1 yc1 yd1 < μ ya yb yc yd → ag ya1 yb1 yc1 yd1) → f ya yb yc yd ag) {ya yb yc yd : Int} (h : Inv ya yb yc yd) (hB : μ ya yb yc yd + 1 ≤ B) : ∃ n, n ≤ B ∧ wl4 f n ya yb yc yd := by
  have key : ∀ N : Nat, ∀ (ya yb yc yd : Int) , Inv ya yb yc yd → μ ya yb yc yd < N → wl4 f N ya yb yc yd := by
    intro N
    induction N with
    | zero => intro ya yb yc yd _ hl; exact absurd hl (Nat.not_lt_zero _)
    | succ N ih => intro ya yb yc yd hI hl; exact hs ya yb yc yd (wl4 f N) hI (fun ya1 yb1 yc1 yd1 hI1 hl1 => ih ya1 yb1 yc1 yd1 hI1 (by omega))
  exact ⟨μ ya yb yc yd + 1, hB, key _ ya yb yc yd h (Nat.lt_succ_self _)⟩
def wj4s (J : Int → Int → Int → Int → St → Prop) (B : (Int → Int → Int → Int → St → Prop) → Prop) : Prop := B J
theorem wj4s_intro {J : Int → Int → Int → Int → St → Prop} {B : (Int → Int → Int → Int → St → Prop) → Prop} (P : Int → Int → Int → Int → St → Prop) (hJ : ∀ (ya yb yc yd : Int) (τ : St) , P ya yb yc yd τ → J ya yb yc yd τ) (hB : ∀ J1 : Int → Int → Int → Int → St → Prop, (∀ (ya yb yc yd : Int) (τ : St) , P ya yb yc yd τ → J1 ya yb yc yd τ) → B J1) : wj4s J B := hB J hJ
def wl4s (f : Int → Int → Int → Int → St → (Int → Int → Int → Int → St → Prop) → Prop) : Nat → Int → Int → Int → Int → St → Prop
  | 0, _, _, _, _, _ => False
  | n + 1, ya, yb, yc, yd, τ => f ya yb yc yd τ (wl4s f n)
theorem wl4s_run {f : Int → Int → Int → Int → St → (Int → Int → Int → Int → St → Prop) → Prop} {P : Int → Int → Int → Int → St → Prop} (hs : ∀ (ya yb yc yd : Int) (τ : St) (ag : Int → Int → Int → Int → St → Prop), (∀ (ya1 yb1 yc1 yd1 : Int) (τ1 : St) , ag ya1 yb1 yc1 yd1 τ1 → P ya1 yb1 yc1 yd1 τ1) → f ya yb yc yd τ ag → P ya yb yc yd τ) {ya yb yc yd : Int} {τ : St} (h : ∃ n, wl4s f n ya yb yc yd τ) : P ya yb yc yd τ := by
  obtain ⟨n, h⟩ := h
  induction n generalizing ya yb yc yd τ with
  | zero => exact h.elim
  | succ n ih => exact hs ya yb yc yd τ (wl4s f n) (fun ya1 yb1 yc1 yd1 τ1 h1 => ih h1) h
theorem wl4s_inv {f : Int → Int → Int → Int → St → (Int → Int → Int → Int → St → Prop) → Prop} (Inv : Int → Int → Int → Int → St → Prop) (μ : Int → Int → Int → Int → St → Nat) (hs : ∀ (ya yb yc yd : Int) (τ : St) (ag : Int → Int → Int → Int → St → Prop), Inv ya yb yc yd τ → (∀ (ya1 yb1 yc1 yd1 : Int) (τ1 : St) , Inv ya1 yb1 yc1 yd1 τ1 → μ ya1 yb1 yc1 yd1 τ1 < μ ya yb yc yd τ → ag ya1 yb1 yc1 yd1 τ1) → f ya yb yc yd τ ag) {ya yb yc yd : Int} {τ : St} (h : Inv ya yb yc yd τ) : ∃ n, wl4s f n ya yb yc yd τ := by
  have key : ∀ N : Nat, ∀ (ya yb yc yd : Int) (τ : St) , Inv ya yb yc yd τ → μ ya yb yc yd τ < N → wl4s f N ya yb yc yd τ := by
    intro N
    induction N with
    | zero => intro ya yb yc yd τ _ hl; exact absurd hl (Nat.not_lt_zero _)
    | succ N ih => intro ya yb yc yd τ hI hl; exact hs ya yb yc yd τ (wl4s f N) hI (fun ya1 yb1 yc1 yd1 τ1 hI1 hl1 => ih ya1 yb1 yc1 yd1 τ1 hI1 (by omega))
  exact ⟨μ ya yb yc yd τ + 1, key _ ya yb yc yd τ h (Nat.lt_succ_self _)⟩
theorem wl4s_invB {f : Int → Int → Int → Int → St → (Int → Int → Int → Int → St → Prop) → Prop} (B : Nat) (Inv : Int → Int → Int → Int → St → Prop) (μ : Int → Int → Int → Int → St → Nat) (hs : ∀ (ya yb yc yd : Int) (τ : St) (ag : Int → Int → Int → Int → St → Prop), Inv ya yb yc yd τ → (∀ (ya1 yb1 yc1 yd1 : Int) (τ1 : St) , Inv ya1 yb1 yc1 yd1 τ1 → μ ya1 yb1 yc1 yd1 τ1 < μ ya yb yc yd τ → ag ya1 yb1 yc1 yd1 τ1) → f ya yb yc yd τ ag) {ya yb yc yd : Int} {τ : St} (h : Inv ya yb yc yd τ) (hB : μ ya yb yc yd τ + 1 ≤ B) : ∃ n, n ≤ B ∧ wl4s f n ya yb yc yd τ := by
  have key : ∀ N : Nat, ∀ (ya yb yc yd : Int) (τ : St) , Inv ya yb yc yd τ → μ ya yb yc yd τ < N → wl4s f N ya yb yc yd τ := by
    intro N
    induction N with
    | zero => intro ya yb yc yd τ _ hl; exact absurd hl (Nat.not_lt_zero _)
    | succ N ih => intro ya yb yc yd τ hI hl; exact hs ya yb yc yd τ (wl4s f N) hI (fun ya1 yb1 yc1 yd1 τ1 hI1 hl1 => ih ya1 yb1 yc1 yd1 τ1 hI1 (by omega))
  exact ⟨μ ya yb yc yd τ + 1, hB, key _ ya yb yc yd τ h (Nat.lt_succ_self _)⟩
def wj5 (J : Int → Int → Int → Int → Int → Prop) (B : (Int → Int → Int → Int → Int → Prop) → Prop) : Prop := B J
theorem wj5_intro {J : Int → Int → Int → Int → Int → Prop} {B : (Int → Int → Int → Int → Int → Prop) → Prop} (P : Int → Int → Int → Int → Int → Prop) (hJ : ∀ (ya yb yc yd ye : Int) , P ya yb yc yd ye → J ya yb yc yd ye) (hB : ∀ J1 : Int → Int → Int → Int → Int → Prop, (∀ (ya yb yc yd ye : Int) , P ya yb yc yd ye → J1 ya yb yc yd ye) → B J1) : wj5 J B := hB J hJ
def wl5 (f : Int → Int → Int → Int → Int → (Int → Int → Int → Int → Int → Prop) → Prop) : Nat → Int → Int → Int → Int → Int → Prop
  | 0, _, _, _, _, _ => False
  | n + 1, ya, yb, yc, yd, ye => f ya yb yc yd ye (wl5 f n)
theorem wl5_run {f : Int → Int → Int → Int → Int → (Int → Int → Int → Int → Int → Prop) → Prop} {P : Int → Int → Int → Int → Int → Prop} (hs : ∀ (ya yb yc yd ye : Int) (ag : Int → Int → Int → Int → Int → Prop), (∀ (ya1 yb1 yc1 yd1 ye1 : Int) , ag ya1 yb1 yc1 yd1 ye1 → P ya1 yb1 yc1 yd1 ye1) → f ya yb yc yd ye ag → P ya yb yc yd ye) {ya yb yc yd ye : Int} (h : ∃ n, wl5 f n ya yb yc yd ye) : P ya yb yc yd ye := by
  obtain ⟨n, h⟩ := h
  induction n generalizing ya yb yc yd ye with
  | zero => exact h.elim
  | succ n ih => exact hs ya yb yc yd ye (wl5 f n) (fun ya1 yb1 yc1 yd1 ye1 h1 => ih h1) h
theorem wl5_inv {f : Int → Int → Int → Int → Int → (Int → Int → Int → Int → Int → Prop) → Prop} (Inv : Int → Int → Int → Int → Int → Prop) (μ : Int → Int → Int → Int → Int → Nat) (hs : ∀ (ya yb yc yd ye : Int) (ag : Int → Int → Int → Int → Int → Prop), Inv ya yb yc yd ye → (∀ (ya1 yb1 yc1 yd1 ye1 : Int) , Inv ya1 yb1 yc1 yd1 ye1 → μ ya1 yb1 yc1 yd1 ye1 < μ ya yb yc yd ye → ag ya1 yb1 yc1 yd1 ye1) → f ya yb yc yd ye ag) {ya yb yc yd ye : Int} (h : Inv ya yb yc yd ye) : ∃ n, wl5 f n ya yb yc yd ye := by
  have key : ∀ N : Nat, ∀ (ya yb yc yd ye : Int) , Inv ya yb yc yd ye → μ ya yb yc yd ye < N → wl5 f N ya yb yc yd ye := by
    intro N
    induction N with
    | zero => intro ya yb yc yd ye _ hl; exact absurd hl (Nat.not_lt_zero _)
    | succ N ih => intro ya yb yc yd ye hI hl; exact hs ya yb yc yd ye (wl5 f N) hI (fun ya1 yb1 yc1 yd1 ye1 hI1 hl1 => ih ya1 yb1 yc1 yd1 ye1 hI1 (by omega))
  exact ⟨μ ya yb yc yd ye + 1, key _ ya yb yc yd ye h (Nat.lt_succ_self _)⟩
theorem wl5_invB {f : Int → Int → Int → Int → Int → (Int → Int → Int → Int → Int → Prop) → Prop} (B : Nat) (Inv : Int → Int → Int → Int → Int → Prop) (μ : Int → Int → Int → Int → Int → Nat) (hs : ∀ (ya yb yc yd ye : Int) (ag : Int → Int → Int → Int → Int → Prop), Inv ya yb yc yd ye → (∀ (ya1 yb1 yc1 yd1 ye1 : Int) , Inv ya1 yb1 yc1 yd1 ye1 → μ ya1 yb1 yc1 yd1 ye1 < μ ya yb yc yd ye → ag ya1 yb1 yc1 yd1 ye1) → f ya yb yc yd ye ag) {ya yb yc yd ye : Int} (h : Inv ya yb yc yd ye) (hB : μ ya yb yc yd ye + 1 ≤ B) : ∃ n, n ≤ B ∧ wl5 f n ya yb yc yd ye := by
  have key : ∀ N : Nat, ∀ (ya yb yc yd ye : Int) , Inv ya yb yc yd ye → μ ya yb yc yd ye < N → wl5 f N ya yb yc yd ye := by
    intro N
    induction N with
    | zero => intro ya yb yc yd ye _ hl; exact absurd hl (Nat.not_lt_zero _)
    | succ N ih => intro ya yb yc yd ye hI hl; exact hs ya yb yc yd ye (wl5 f N) hI (fun ya1 yb1 yc1 yd1 ye1 hI1 hl1 => ih ya1 yb1 yc1 yd1 ye1 hI1 (by omega))
  exact ⟨μ ya yb yc yd ye + 1, hB, key _ ya yb yc yd ye h (Nat.lt_succ_self _)⟩
def wj5s (J : Int → Int → Int → Int → Int → St → Prop) (B : (Int → Int → Int → Int → Int → St → Prop) → Prop) : Prop := B J
theorem wj5s_intro {J : Int → Int → Int → Int → Int → St → Prop} {B : (Int → Int → Int → Int → Int → St → Prop) → Prop} (P : Int → Int → Int → Int → Int → St → Prop) (hJ : ∀ (ya yb yc yd ye : Int) (τ : St) , P ya yb yc yd ye τ → J ya yb yc yd ye τ) (hB : ∀ J1 : Int → Int → Int → Int → Int → St → Prop, (∀ (ya yb yc yd ye : Int) (τ : St) , P ya yb yc yd ye τ → J1 ya yb yc yd ye τ) → B J1) : wj5s J B := hB J hJ
def wl5s (f : Int → Int → Int → Int → Int → St → (Int → Int → Int → Int → Int → St → Prop) → Prop) : Nat → Int → Int → Int → Int → Int → St → Prop
  | 0, _, _, _, _, _, _ => False
  | n + 1, ya, yb, yc, yd, ye, τ => f ya yb yc yd ye τ (wl5s f n)
theorem wl5s_run {f : Int → Int → Int → Int → Int → St → (Int → Int → Int → Int → Int → St → Prop) → Prop} {P : Int → Int → Int → Int → Int → St → Prop} (hs : ∀ (ya yb yc yd ye : Int) (τ : St) (ag : Int → Int → Int → Int → Int → St → Prop), (∀ (ya1 yb1 yc1 yd1 ye1 : Int) (τ1 : St) , ag ya1 yb1 yc1 yd1 ye1 τ1 → P ya1 yb1 yc1 yd1 ye1 τ1) → f ya yb yc yd ye τ ag → P ya yb yc yd ye τ) {ya yb yc yd ye : Int} {τ : St} (h : ∃ n, wl5s f n ya yb yc yd ye τ) : P ya yb yc yd ye τ := by
  obtain ⟨n, h⟩ := h
  induction n generalizing ya yb yc yd ye τ with
  | zero => exact h.elim
  | succ n ih => exact hs ya yb yc yd ye τ (wl5s f n) (fun ya1 yb1 yc1 yd1 ye1 τ1 h1 => ih h1) h
theorem wl5s_inv {f : Int → Int → Int → Int → Int → St → (Int → Int → Int → Int → Int → St → Prop) → Prop} (Inv : Int → Int → Int → Int → Int → St → Prop) (μ : Int → Int → Int → Int → Int → St → Nat) (hs : ∀ (ya yb yc yd ye : Int) (τ : St) (ag : Int → Int → Int → Int → Int → St → Prop), Inv ya yb yc yd ye τ → (∀ (ya1 yb1 yc1 yd1 ye1 : Int) (τ1 : St) , Inv ya1 yb1 yc1 yd1 ye1 τ1 → μ ya1 yb1 yc1 yd1 ye1 τ1 < μ ya yb yc yd ye τ → ag ya1 yb1 yc1 yd1 ye1 τ1) → f ya yb yc yd ye τ ag) {ya yb yc yd ye : Int} {τ : St} (h : Inv ya yb yc yd ye τ) : ∃ n, wl5s f n ya yb yc yd ye τ := by
  have key : ∀ N : Nat, ∀ (ya yb yc yd ye : Int) (τ : St) , Inv ya yb yc yd ye τ → μ ya yb yc yd ye τ < N → wl5s f N ya yb yc yd ye τ := by
    intro N
    induction N with
    | zero => intro ya yb yc yd ye τ _ hl; exact absurd hl (Nat.not_lt_zero _)
    | succ N ih => intro ya yb yc yd ye τ hI hl; exact hs ya yb yc yd ye τ (wl5s f N) hI (fun ya1 yb1 yc1 yd1 ye1 τ1 hI1 hl1 => ih ya1 yb1 yc1 yd1 ye1 τ1 hI1 (by omega))
  exact ⟨μ ya yb yc yd ye τ + 1, key _ ya yb yc yd ye τ h (Nat.lt_succ_self _)⟩
theorem wl5s_invB {f : Int → Int → Int → Int → Int → St → (Int → Int → Int → Int → Int → St → Prop) → Prop} (B : Nat) (Inv : Int → Int → Int → Int → Int → St → Prop) (μ : Int → Int → Int → Int → Int → St → Nat) (hs : ∀ (ya yb yc yd ye : Int) (τ : St) (ag : Int → Int → Int → Int → Int → St → Prop), Inv ya yb yc yd ye τ → (∀ (ya1 yb1 yc1 yd1 ye1 : Int) (τ1 : St) , Inv ya1 yb1 yc1 yd1 ye1 τ1 → μ ya1 yb1 yc1 yd1 ye1 τ1 < μ ya yb yc yd ye τ → ag ya1 yb1 yc1 yd1 ye1 τ1) → f ya yb yc yd ye τ ag) {ya yb yc yd ye : Int} {τ : St} (h : Inv ya yb yc yd ye τ) (hB : μ ya yb yc yd ye τ + 1 ≤ B) : ∃ n, n ≤ B ∧ wl5s f n ya yb yc yd ye τ := by
  have key : ∀ N : Nat, ∀ (ya yb yc yd ye : Int) (τ : St) , Inv ya yb yc yd ye τ → μ ya yb yc yd ye τ < N → wl5s f N ya yb yc yd ye τ := by
    intro N
    induction N with
    | zero => intro ya yb yc yd ye τ _ hl; exact absurd hl (Nat.not_lt_zero _)
    | succ N ih => intro ya yb yc yd ye τ hI hl; exact hs ya yb yc yd ye τ (wl5s f N) hI (fun ya1 yb1 yc1 yd1 ye1 τ1 hI1 hl1 => ih ya1 yb1 yc1 yd1 ye1 τ1 hI1 (by omega))
  exact ⟨μ ya yb yc yd ye τ + 1, hB, key _ ya yb yc yd ye τ h (Nat.lt_succ_self _)⟩
def wj6 (J : Int → Int → Int → Int → Int → Int → Prop) (B : (Int → Int → Int → Int → Int → Int → Prop) → Prop) : Prop := B J
theorem wj6_intro {J : Int → Int → Int → Int → Int → Int → Prop} {B : (Int → Int → Int → Int → Int → Int → Prop) → Prop} (P : Int → Int → Int → Int → Int → Int → Prop) (hJ : ∀ (ya yb yc yd ye yf : Int) , P ya yb yc yd ye yf → J ya yb yc yd ye yf) (hB : ∀ J1 : Int → Int → Int → Int → Int → Int → Prop, (∀ (ya yb yc yd ye yf : Int) , P ya yb yc yd ye yf → J1 ya yb yc yd ye yf) → B J1) : wj6 J B := hB J hJ
def wl6 (f : Int → Int → Int → Int → Int → Int → (Int → Int → Int → Int → Int → Int → Prop) → Prop) : Nat → Int → Int → Int → Int → Int → Int → Prop
  | 0, _, _, _, _, _, _ => False
  | n + 1, ya, yb, yc, yd, ye, yf => f ya yb yc yd ye yf (wl6 f n)
theorem wl6_run {f : Int → Int → Int → Int → Int → Int → (Int → Int → Int → Int → Int → Int → Prop) → Prop} {P : Int → Int → Int → Int → Int → Int → Prop} (hs : ∀ (ya yb yc yd ye yf : Int) (ag : Int → Int → Int → Int → Int → Int → Prop), (∀ (ya1 yb1 yc1 yd1 ye1 yf1 : Int) , ag ya1 yb1 yc1 yd1 ye1 yf1 → P ya1 yb1 yc1 yd1 ye1 yf1) → f ya yb yc yd ye yf ag → P ya yb yc yd ye yf) {ya yb yc yd ye yf : Int} (h : ∃ n, wl6 f n ya yb yc yd ye yf) : P ya yb yc yd ye yf := by
  obtain ⟨n, h⟩ := h
  induction n generalizing ya yb yc yd ye yf with
  | zero => exact h.elim
  | succ n ih => exact hs ya yb yc yd ye yf (wl6 f n) (fun ya1 yb1 yc1 yd1 ye1 yf1 h1 => ih h1) h
theorem wl6_inv {f : Int → Int → Int → Int → Int → Int → (Int → Int → Int → Int → Int → Int → Prop) → Prop} (Inv : Int → Int → Int → Int → Int → Int → Prop) (μ : Int → Int → Int → Int → Int → Int → Nat) (hs : ∀ (ya yb yc yd ye yf : Int) (ag : Int → Int → Int → Int → Int → Int → Prop), Inv ya yb yc yd ye yf → (∀ (ya1 yb1 yc1 yd1 ye1 yf1 : Int) , Inv ya1 yb1 yc1 yd1 ye1 yf1 → μ ya1 yb1 yc1 yd1 ye1 yf1 < μ ya yb yc yd ye yf → ag ya1 yb1 yc1 yd1 ye1 yf1) → f ya yb yc yd ye yf ag) {ya yb yc yd ye yf : Int} (h : Inv ya yb yc yd ye yf) : ∃ n, wl6 f n ya yb yc yd ye yf := by
  have key : ∀ N : Nat, ∀ (ya yb yc yd ye yf : Int) , Inv ya yb yc yd ye yf → μ ya yb yc yd ye yf < N → wl6 f N ya yb yc yd ye yf := by
    intro N
    induction N with
    | zero => intro ya yb yc yd ye yf _ hl; exact absurd hl (Nat.not_lt_zero _)
    | succ N ih => intro ya yb yc yd ye yf hI hl; exact hs ya yb yc yd ye yf (wl6 f N) hI (fun ya1 yb1 yc1 yd1 ye1 yf1 hI1 hl1 => ih ya1 yb1 yc1 yd1 ye1 yf1 hI1 (by omega))
  exact ⟨μ ya yb yc yd ye yf + 1, key _ ya yb yc yd ye yf h (Nat.lt_succ_self _)⟩
theorem wl6_invB {f : Int → Int → Int → Int → Int → Int → (Int → Int → Int → Int → Int → Int → Prop) → Prop} (B : Nat) (Inv : Int → Int → Int → Int → Int → Int → Prop) (μ : Int → Int → Int → Int → Int → Int → Nat) (hs : ∀ (ya yb yc yd ye yf : Int) (ag : Int → Int → Int → Int → Int → Int → Prop), Inv ya yb yc yd ye yf → (∀ (ya1 yb1 yc1 yd1 ye1 yf1 : Int) , Inv ya1 yb1 yc1 yd1 ye1 yf1 → μ ya1 yb1 yc1 yd1 ye1 yf1 < μ ya yb yc yd ye yf → ag ya1 yb1 yc1 yd1 ye1 yf1) → f ya yb yc yd ye yf ag) {ya yb yc yd ye yf : Int} (h : Inv ya yb yc yd ye yf) (hB : μ ya yb yc yd ye yf + 1 ≤ B) : ∃ n, n ≤ B ∧ wl6 f n ya yb yc yd ye yf := by
  have key : ∀ N : Nat, ∀ (ya yb yc yd ye yf : Int) , Inv ya yb yc yd ye yf → μ ya yb yc yd ye yf < N → wl6 f N ya yb yc yd ye yf := by
    intro N
    induction N with
    | zero => intro ya yb yc yd ye yf _ hl; exact absurd hl (Nat.not_lt_zero _)
    | succ N ih => intro ya yb yc yd ye yf hI hl; exact hs ya yb yc yd ye yf (wl6 f N) hI (fun ya1 yb1 yc1 yd1 ye1 yf1 hI1 hl1 => ih ya1 yb1 yc1 yd1 ye1 yf1 hI1 (by omega))
  exact ⟨μ ya yb yc yd ye yf + 1, hB, key _ ya yb yc yd ye yf h (Nat.lt_succ_self _)⟩
def wj6s (J : Int → Int → Int → Int → Int → Int → St → Prop) (B : (Int → Int → Int → Int → Int → Int → St → Prop) → Prop) : Prop := B J
theorem wj6s_intro {J : Int → Int → Int → Int → Int → Int → St → Prop} {B : (Int → Int → Int → Int → Int → Int → St → Prop) → Prop} (P : Int → Int → Int → Int → Int → Int → St → Prop) (hJ : ∀ (ya yb yc yd ye yf : Int) (τ : St) , P ya yb yc yd ye yf τ → J ya yb yc yd ye yf τ) (hB : ∀ J1 : Int → Int → Int → Int → Int → Int → St → Prop, (∀ (ya yb yc yd ye yf : Int) (τ : St) , P ya yb yc yd ye yf τ → J1 ya yb yc yd ye yf τ) → B J1) : wj6s J B := hB J hJ
def wl6s (f : Int → Int → Int → Int → Int → Int → St → (Int → Int → Int → Int → Int → Int → St → Prop) → Prop) : Nat → Int → Int → Int → Int → Int → Int → St → Prop
  | 0, _, _, _, _, _, _, _ => False
  | n + 1, ya, yb, yc, yd, ye, yf, τ => f ya yb yc yd ye yf τ (wl6s f n)
theorem wl6s_run {f : Int → Int → Int → Int → Int → Int → St → (Int → Int → Int → Int → Int → Int → St → Prop) → Prop} {P : Int → Int → Int → Int → Int → Int → St → Prop} (hs : ∀ (ya yb yc yd ye yf : Int) (τ : St) (ag : Int → Int → Int → Int → Int → Int → St → Prop), (∀ (ya1 yb1 yc1 yd1 ye1 yf1 : Int) (τ1 : St) , ag ya1 yb1 yc1 yd1 ye1 yf1 τ1 → P ya1 yb1 yc1 yd1 ye1 yf1 τ1) → f ya yb yc yd ye yf τ ag → P ya yb yc yd ye yf τ) {ya yb yc yd ye yf : Int} {τ : St} (h : ∃ n, wl6s f n ya yb yc yd ye yf τ) : P ya yb yc yd ye yf τ := by
  obtain ⟨n, h⟩ := h
  induction n generalizing ya yb yc yd ye yf τ with
  | zero => exact h.elim
  | succ n ih => exact hs ya yb yc yd ye yf τ (wl6s f n) (fun ya1 yb1 yc1 yd1 ye1 yf1 τ1 h1 => ih h1) h
theorem wl6s_inv {f : Int → Int → Int → Int → Int → Int → St → (Int → Int → Int → Int → Int → Int → St → Prop) → Prop} (Inv : Int → Int → Int → Int → Int → Int → St → Prop) (μ : Int → Int → Int → Int → Int → Int → St → Nat) (hs : ∀ (ya yb yc yd ye yf : Int) (τ : St) (ag : Int → Int → Int → Int → Int → Int → St → Prop), Inv ya yb yc yd ye yf τ → (∀ (ya1 yb1 yc1 yd1 ye1 yf1 : Int) (τ1 : St) , Inv ya1 yb1 yc1 yd1 ye1 yf1 τ1 → μ ya1 yb1 yc1 yd1 ye1 yf1 τ1 < μ ya yb yc yd ye yf τ → ag ya1 yb1 yc1 yd1 ye1 yf1 τ1) → f ya yb yc yd ye yf τ ag) {ya yb yc yd ye yf : Int} {τ : St} (h : Inv ya yb yc yd ye yf τ) : ∃ n, wl6s f n ya yb yc yd ye yf τ := by
  have key : ∀ N : Nat, ∀ (ya yb yc yd ye yf : Int) (τ : St) , Inv ya yb yc yd ye yf τ → μ ya yb yc yd ye yf τ < N → wl6s f N ya yb yc yd ye yf τ := by
    intro N
    induction N with
    | zero => intro ya yb yc yd ye yf τ _ hl; exact absurd hl (Nat.not_lt_zero _)
    | succ N ih => intro ya yb yc yd ye yf τ hI hl; exact hs ya yb yc yd ye yf τ (wl6s f N) hI (fun ya1 yb1 yc1 yd1 ye1 yf1 τ1 hI1 hl1 => ih ya1 yb1 yc1 yd1 ye1 yf1 τ1 hI1 (by omega))
  exact ⟨μ ya yb yc yd ye yf τ + 1, key _ ya yb yc yd ye yf τ h (Nat.lt_succ_self _)⟩
theorem wl6s_invB {f : Int → Int → Int → Int → Int → Int → St → (Int → Int → Int → Int → Int → Int → St → Prop) → Prop} (B : Nat) (Inv : Int → Int → Int → Int → Int → Int → St → Prop) (μ : Int → Int → Int → Int → Int → Int → St → Nat) (hs : ∀ (ya yb yc yd ye yf : Int) (τ : St) (ag : Int → Int → Int → Int → Int → Int → St → Prop), Inv ya yb yc yd ye yf τ → (∀ (ya1 yb1 yc1 yd1 ye1 yf1 : Int) (τ1 : St) , Inv ya1 yb1 yc1 yd1 ye1 yf1 τ1 → μ ya1 yb1 yc1 yd1 ye1 yf1 τ1 < μ ya yb yc yd ye yf τ → ag ya1 yb1 yc1 yd1 ye1 yf1 τ1) → f ya yb yc yd ye yf τ ag) {ya yb yc yd ye yf : Int} {τ : St} (h : Inv ya yb yc yd ye yf τ) (hB : μ ya yb yc yd ye yf τ + 1 ≤ B) : ∃ n, n ≤ B ∧ wl6s f n ya yb yc yd ye yf τ := by
  have key : ∀ N : Nat, ∀ (ya yb yc yd ye yf : Int) (τ : St) , Inv ya yb yc yd ye yf τ → μ ya yb yc yd ye yf τ < N → wl6s f N ya yb yc yd ye yf τ := by
    intro N
    induction N with
    | zero => intro ya yb yc yd ye yf τ _ hl; exact absurd hl (Nat.not_lt_zero _)
    | succ N ih => intro ya yb yc yd ye yf τ hI hl; exact hs ya yb yc yd ye yf τ (wl6s f N) hI (fun ya1 yb1 yc1 yd1 ye1 yf1 τ1 hI1 hl1 => ih ya1 yb1 yc1 yd1 ye1 yf1 τ1 hI1 (by omega))
  exact ⟨μ ya yb yc yd ye yf τ + 1, hB, key _ ya yb yc yd ye yf τ h (Nat.lt_succ_self _)⟩
def wj7 (J : Int → Int → Int → Int → Int → Int → Int → Prop) (B : (Int → Int → Int → Int → Int → Int → Int → Prop) → Prop) : Prop := B J
theorem wj7_intro {J : Int → Int → Int → Int → Int → Int → Int → Prop} {B : (Int → Int → Int → Int → Int → Int → Int → Prop) → Prop} (P : Int → Int → Int → Int → Int → Int → Int → Prop) (hJ : ∀ (ya yb yc yd ye yf yg : Int) , P ya yb yc yd ye yf yg → J ya yb yc yd ye yf yg) (hB : ∀ J1 : Int → Int → Int → Int → Int → Int → Int → Prop, (∀ (ya yb yc yd ye yf yg : Int) , P ya yb yc yd ye yf yg → J1 ya yb yc yd ye yf yg) → B J1) : wj7 J B := hB J hJ
def wl7 (f : Int → Int → Int → Int → Int → Int → Int → (Int → Int → Int → Int → Int → Int → Int → Prop) → Prop) : Nat → Int → Int → Int → Int → Int → Int → Int → Prop
  | 0, _, _, _, _, _, _, _ => False
  | n + 1, ya, yb, yc, yd, ye, yf, yg => f ya yb yc yd ye yf yg (wl7 f n)
theorem wl7_run {f : Int → Int → Int → Int → Int → Int → Int → (Int → Int → Int → Int → Int → Int → Int → Prop) → Prop} {P : Int → Int → Int → Int → Int → Int → Int → Prop} (hs : ∀ (ya yb yc yd ye yf yg : Int) (ag : Int → Int → Int → Int → Int → Int → Int → Prop), (∀ (ya1 yb1 yc1 yd1 ye1 yf1 yg1 : Int) , ag ya1 yb1 yc1 yd1 ye1 yf1 yg1 → P ya1 yb1 yc1 yd1 ye1 yf1 yg1) → f ya yb yc yd ye yf yg ag → P ya yb yc yd ye yf yg) {ya yb yc yd ye yf yg : Int} (h : ∃ n, wl7 f n ya yb yc yd ye yf yg) : P ya yb yc yd ye yf yg := by
  obtain ⟨n, h⟩ := h
  induction n generalizing ya yb yc yd ye yf yg with
  | zero => exact h.elim
  | succ n ih => exact hs ya yb yc yd ye yf yg (wl7 f n) (fun ya1 yb1 yc1 yd1 ye1 yf1 yg1 h1 => ih h1) h
theorem wl7_inv {f : Int → Int → Int → Int → Int → Int → Int → (Int → Int → Int → Int → Int → Int → Int → Prop) → Prop} (Inv : Int → Int → Int → Int → Int → Int → Int → Prop) (μ : Int → Int → Int → Int → Int → Int → Int → Nat) (hs : ∀ (ya yb yc yd ye yf yg : Int) (ag : Int → Int → Int → Int → Int → Int → Int → Prop), Inv ya yb yc yd ye yf yg → (∀ (ya1 yb1 yc1 yd1 ye1 yf1 yg1 : Int) , Inv ya1 yb1 yc1 yd1 ye1 yf1 yg1 → μ ya1 yb1 yc1 yd1 ye1 yf1 yg1 < μ ya yb yc yd ye yf yg → ag ya1 yb1 yc1 yd1 ye1 yf1 yg1) → f ya yb yc yd ye yf yg ag) {ya yb yc yd ye yf yg : Int} (h : Inv ya yb yc yd ye yf yg) : ∃ n, wl7 f n ya yb yc yd ye yf yg := by
  have key : ∀ N : Nat, ∀ (ya yb yc yd ye yf yg : Int) , Inv ya yb yc yd ye yf yg → μ ya yb yc yd ye yf yg < N → wl7 f N ya yb yc yd ye yf yg := by
    intro N
    induction N with
    | zero => intro ya yb yc yd ye yf yg _ hl; exact absurd hl (Nat.not_lt_zero _)
    | succ N ih => intro ya yb yc yd ye yf yg hI hl; exact hs ya yb yc yd ye yf yg (wl7 f N) hI (fun ya1 yb1 yc1 yd1 ye1 yf1 yg1 hI1 hl1 => ih ya1 yb1 yc1 yd1 ye1 yf1 yg1 hI1 (by omega))
  exact ⟨μ ya yb yc yd ye yf yg + 1, key _ ya yb yc yd ye yf yg h (Nat.lt_succ_self _)⟩
theorem wl7_invB {f : Int → Int → Int → Int → Int → Int → Int → (Int → Int → Int → Int → Int → Int → Int → Prop) → Prop} (B : Nat) (Inv : Int → Int → Int → Int → Int → Int → Int → Prop) (μ : Int → Int → Int → Int → Int → Int → Int → Nat) (hs : ∀ (ya yb yc yd ye yf yg : Int) (ag : Int → Int → Int → Int → Int → Int → Int → Prop), Inv ya yb yc yd ye yf yg → (∀ (ya1 yb1 yc1 yd1 ye1 yf1 yg1 : Int) , Inv ya1 yb1 yc1 yd1 ye1 yf1 yg1 → μ ya1 yb1 yc1 yd1 ye1 yf1 yg1 < μ ya yb yc yd ye yf yg → ag ya1 yb1 yc1 yd1 ye1 yf1 yg1) → f ya yb yc yd ye yf yg ag) {ya yb yc yd ye yf yg : Int} (h : Inv ya yb yc yd ye yf yg) (hB : μ ya yb yc yd ye yf yg + 1 ≤ B) : ∃ n, n ≤ B ∧ wl7 f n ya yb yc yd ye yf yg := by
  have key : ∀ N : Nat, ∀ (ya yb yc yd ye yf yg : Int) , Inv ya yb yc yd ye yf yg → μ ya yb yc yd ye yf yg < N → wl7 f N ya yb yc yd ye yf yg := by
    intro N
    induction N with
    | zero => intro ya yb yc yd ye yf yg _ hl; exact absurd hl (Nat.not_lt_zero _)
    | succ N ih => intro ya yb yc yd ye yf yg hI hl; exact hs ya yb yc yd ye yf yg (wl7 f N) hI (fun ya1 yb1 yc1 yd1 ye1 yf1 yg1 hI1 hl1 => ih ya1 yb1 yc1 yd1 ye1 yf1 yg1 hI1 (by omega))
  exact ⟨μ ya yb yc yd ye yf yg + 1, hB, key _ ya yb yc yd ye yf yg h (Nat.lt_succ_self _)⟩
def wj7s (J : Int → Int → Int → Int → Int → Int → Int → St → Prop) (B : (Int → Int → Int → Int → Int → Int → Int → St → Prop) → Prop) : Prop := B J
theorem wj7s_intro {J : Int → Int → Int → Int → Int → Int → Int → St → Prop} {B : (Int → Int → Int → Int → Int → Int → Int → St → Prop) → Prop} (P : Int → Int → Int → Int → Int → Int → Int → St → Prop) (hJ : ∀ (ya yb yc yd ye yf yg : Int) (τ : St) , P ya yb yc yd ye yf yg τ → J ya yb yc yd ye yf yg τ) (hB : ∀ J1 : Int → Int → Int → Int → Int → Int → Int → St → Prop, (∀ (ya yb yc yd ye yf yg : Int) (τ : St) , P ya yb yc yd ye yf yg τ → J1 ya yb yc yd ye yf yg τ) → B J1) : wj7s J B := hB J hJ
def wl7s (f : Int → Int → Int → Int → Int → Int → Int → St → (Int → Int → Int → Int → Int → Int → Int → St → Prop) → Prop) : Nat → Int → Int → Int → Int → Int → Int → Int → St → Prop
  | 0, _, _, _, _, _, _, _, _ => False
  | n + 1, ya, yb, yc, yd, ye, yf, yg, τ => f ya yb yc yd ye yf yg τ (wl7s f n)
theorem wl7s_run {f : Int → Int → Int → Int → Int → Int → Int → St → (Int → Int → Int → Int → Int → Int → Int → St → Prop) → Prop} {P : Int → Int → Int → Int → Int → Int → Int → St → Prop} (hs : ∀ (ya yb yc yd ye yf yg : Int) (τ : St) (ag : Int → Int → Int → Int → Int → Int → Int → St → Prop), (∀ (ya1 yb1 yc1 yd1 ye1 yf1 yg1 : Int) (τ1 : St) , ag ya1 yb1 yc1 yd1 ye1 yf1 yg1 τ1 → P ya1 yb1 yc1 yd1 ye1 yf1 yg1 τ1) → f ya yb yc yd ye yf yg τ ag → P ya yb yc yd ye yf yg τ) {ya yb yc yd ye yf yg : Int} {τ : St} (h : ∃ n, wl7s f n ya yb yc yd ye yf yg τ) : P ya yb yc yd ye yf yg τ := by
  obtain ⟨n, h⟩ := h
  induction n generalizing ya yb yc yd ye yf yg τ with
  | zero => exact h.elim
  | succ n ih => exact hs ya yb yc yd ye yf yg τ (wl7s f n) (fun ya1 yb1 yc1 yd1 ye1 yf1 yg1 τ1 h1 => ih h1) h
theorem wl7s_inv {f : Int → Int → Int → Int → Int → Int → Int → St → (Int → Int → Int → Int → Int → Int → Int → St → Prop) → Prop} (Inv : Int → Int → Int → Int → Int → Int → Int → St → Prop) (μ : Int → Int → Int → Int → Int → Int → Int → St → Nat) (hs : ∀ (ya yb yc yd ye yf yg : Int) (τ : St) (ag : Int → Int → Int → Int → Int → Int → Int → St → Prop), Inv ya yb yc yd ye yf yg τ → (∀ (ya1 yb1 yc1 yd1 ye1 yf1 yg1 : Int) (τ1 : St) , Inv ya1 yb1 yc1 yd1 ye1 yf1 yg1 τ1 → μ ya1 yb1 yc1 yd1 ye1 yf1 yg1 τ1 < μ ya yb yc yd ye yf yg τ → ag ya1 yb1 yc1 yd1 ye1 yf1 yg1 τ1) → f ya yb yc yd ye yf yg τ ag) {ya yb yc yd ye yf yg : Int} {τ : St} (h : Inv ya yb yc yd ye yf yg τ) : ∃ n, wl7s f n ya yb yc yd ye yf yg τ := by
  have key : ∀ N : Nat, ∀ (ya yb yc yd ye yf yg : Int) (τ : St) , Inv ya yb yc yd ye yf yg τ → μ ya yb yc yd ye yf yg τ < N → wl7s f N ya yb yc yd ye yf yg τ := by
    intro N
    induction N with
    | zero => intro ya yb yc yd ye yf yg τ _ hl; exact absurd hl (Nat.not_lt_zero _)
    | succ N ih => intro ya yb yc yd ye yf yg τ hI hl; exact hs ya yb yc yd ye yf yg τ (wl7s f N) hI (fun ya1 yb1 yc1 yd1 ye1 yf1 yg1 τ1 hI1 hl1 => ih ya1 yb1 yc1 yd1 ye1 yf1 yg1 τ1 hI1 (by omega))
  exact ⟨μ ya yb yc yd ye yf yg τ + 1, key _ ya yb yc yd ye yf yg τ h (Nat.lt_succ_self _)⟩
theorem wl7s_invB {f : Int → Int → Int → Int → Int → Int → Int → St → (Int → Int → Int → Int → Int → Int → Int → St → Prop) → Prop} (B : Nat) (Inv : Int → Int → Int → Int → Int → Int → Int → St → Prop) (μ : Int → Int → Int → Int → Int → Int → Int → St → Nat) (hs : ∀ (ya yb yc yd ye yf yg : Int) (τ : St) (ag : Int → Int → Int → Int → Int → Int → Int → St → Prop), Inv ya yb yc yd ye yf yg τ → (∀ (ya1 yb1 yc1 yd1 ye1 yf1 yg1 : Int) (τ1 : St) , Inv ya1 yb1 yc1 yd1 ye1 yf1 yg1 τ1 → μ ya1 yb1 yc1 yd1 ye1 yf1 yg1 τ1 < μ ya yb yc yd ye yf yg τ → ag ya1 yb1 yc1 yd1 ye1 yf1 yg1 τ1) → f ya yb yc yd ye yf yg τ ag) {ya yb yc yd ye yf yg : Int} {τ : St} (h : Inv ya yb yc yd ye yf yg τ) (hB : μ ya yb yc yd ye yf yg τ + 1 ≤ B) : ∃ n, n ≤ B ∧ wl7s f n ya yb yc yd ye yf yg τ := by
  have key : ∀ N : Nat, ∀ (ya yb yc yd ye yf yg : Int) (τ : St) , Inv ya yb yc yd ye yf yg τ → μ ya yb yc yd ye yf yg τ < N → wl7s f N ya yb yc yd ye yf yg τ := by
    intro N
    induction N with
    | zero => intro ya yb yc yd ye yf yg τ _ hl; exact absurd hl (Nat.not_lt_zero _)
    | succ N ih => intro ya yb yc yd ye yf yg τ hI hl; exact hs ya yb yc yd ye yf yg τ (wl7s f N) hI (fun ya1 yb1 yc1 yd1 ye1 yf1 yg1 τ1 hI1 hl1 => ih ya1 yb1 yc1 yd1 ye1 yf1 yg1 τ1 hI1 (by omega))
  exact ⟨μ ya yb yc yd ye yf yg τ + 1, hB, key _ ya yb yc yd ye yf yg τ h (Nat.lt_succ_self _)⟩
def wj8 (J : Int → Int → Int → Int → Int → Int → Int → Int → Prop) (B : (Int → Int → Int → Int → Int → Int → Int → Int → Prop) → Prop) : Prop := B J
theorem wj8_intro {J : Int → Int → Int → Int → Int → Int → Int → Int → Prop} {B : (Int → Int → Int → Int → Int → Int → Int → Int → Prop) → Prop} (P : Int → Int → Int → Int → Int → Int → Int → Int → Prop) (hJ : ∀ (ya yb yc yd ye yf yg yh : Int) , P ya yb yc yd ye yf yg yh → J ya yb yc yd ye yf yg yh) (hB : ∀ J1 : Int → Int → Int → Int → Int → Int → Int → Int → Prop, (∀ (ya yb yc yd ye yf yg yh : Int) , P ya yb yc yd ye yf yg yh → J1 ya yb yc yd ye yf yg yh) → B J1) : wj8 J B := hB J hJ
def wl8 (f : Int → Int → Int → Int → Int → Int → Int → Int → (Int → Int → Int → Int → Int → Int → Int → Int → Prop) → Prop) : Nat → Int → Int → Int → Int → Int → Int → Int → Int → Prop
  | 0, _, _, _, _, _, _, _, _ => False
  | n + 1, ya, yb, yc, yd, ye, yf, yg, yh => f ya yb yc yd ye yf yg yh (wl8 f n)
theorem wl8_run {f : Int → Int → Int → Int → Int → Int → Int → Int → (Int → Int → Int → Int → Int → Int → Int → Int → Prop) → Prop} {P : Int → Int → Int → Int → Int → Int → Int → Int → Prop} (hs : ∀ (ya yb yc yd ye yf yg yh : Int) (ag : Int → Int → Int → Int → Int → Int → Int → Int → Prop), (∀ (ya1 yb1 yc1 yd1 ye1 yf1 yg1 yh1 : Int) , ag ya1 yb1 yc1 yd1 ye1 yf1 yg1 yh1 → P ya1 yb1 yc1 yd1 ye1 yf1 yg1 yh1) → f ya yb yc yd ye yf yg yh ag → P ya yb yc yd ye yf yg yh) {ya yb yc yd ye yf yg yh : Int} (h : ∃ n, wl8 f n ya yb yc yd ye yf yg yh) : P ya yb yc yd ye yf yg yh := by
  obtain ⟨n, h⟩ := h
  induction n generalizing ya yb yc yd ye yf yg yh with
  | zero => exact h.elim
  | succ n ih => exact hs ya yb yc yd ye yf yg yh (wl8 f n) (fun ya1 yb1 yc1 yd1 ye1 yf1 yg1 yh1 h1 => ih h1) h
theorem wl8_inv {f : Int → Int → Int → Int → Int → Int → Int → Int → (Int → Int → Int → Int → Int → Int → Int → Int → Prop) → Prop} (Inv : Int → Int → Int → Int → Int → Int → Int → Int → Prop) (μ : Int → Int → Int → Int → Int → Int → Int → Int → Nat) (hs : ∀ (ya yb yc yd ye yf yg yh : Int) (ag : Int → Int → Int → Int → Int → Int → Int → Int → Prop), Inv ya yb yc yd ye yf yg yh → (∀ (ya1 yb1 yc1 yd1 ye1 yf1 yg1 yh1 : Int) , Inv ya1 yb1 yc1 yd1 ye1 yf1 yg1 yh1 → μ ya1 yb1 yc1 yd1 ye1 yf1 yg1 yh1 < μ ya yb yc yd ye yf yg yh → ag ya1 yb1 yc1 yd1 ye1 yf1 yg1 yh1) → f ya yb yc yd ye yf yg yh ag) {ya yb yc yd ye yf yg yh : Int} (h : Inv ya yb yc yd ye yf yg yh) : ∃ n, wl8 f n ya yb yc yd ye yf yg yh := by
  have key : ∀ N : Nat, ∀ (ya yb yc yd ye yf yg yh : Int) , Inv ya yb yc yd ye yf yg yh → μ ya yb yc yd ye yf yg yh < N → wl8 f N ya yb yc yd ye yf yg yh := by
    intro N
    induction N with
    | zero => intro ya yb yc yd ye yf yg yh _ hl; exact absurd hl (Nat.not_lt_zero _)
    | succ N ih => intro ya yb yc yd ye yf yg yh hI hl; exact hs ya yb yc yd ye yf yg yh (wl8 f N) hI (fun ya1 yb1 yc1 yd1 ye1 yf1 yg1 yh1 hI1 hl1 => ih ya1 yb1 yc1 yd1 ye1 yf1 yg1 yh1 hI1 (by omega))
  exact ⟨μ ya yb yc yd ye yf yg yh + 1, key _ ya yb yc yd ye yf yg yh h (Nat.lt_succ_self _)⟩
theorem wl8_invB {f : Int → Int → Int → Int → Int → Int → Int → Int → (Int → Int → Int → Int → Int → Int → Int → Int → Prop) → Prop} (B : Nat) (Inv : Int → Int → Int → Int → Int → Int → Int → Int → Prop) (μ : Int → Int → Int → Int → Int → Int → Int → Int → Nat) (hs : ∀ (ya yb yc yd ye yf yg yh : Int) (ag : Int → Int → Int → Int → Int → Int → Int → Int → Prop), Inv ya yb yc yd ye yf yg yh → (∀ (ya1 yb1 yc1 yd1 ye1 yf1 yg1 yh1 : Int) , Inv ya1 yb1 yc1 yd1 ye1 yf1 yg1 yh1 → μ ya1 yb1 yc1 yd1 ye1 yf1 yg1 yh1 < μ ya yb yc yd ye yf yg yh → ag ya1 yb1 yc1 yd1 ye1 yf1 yg1 yh1) → f ya yb yc yd ye yf yg yh ag) {ya yb yc yd ye yf yg yh : Int} (h : Inv ya yb yc yd ye yf yg yh) (hB : μ ya yb yc yd ye yf yg yh + 1 ≤ B) : ∃ n, n ≤ B ∧ wl8 f n ya yb yc yd ye yf yg yh := by
  have key : ∀ N : Nat, ∀ (ya yb yc yd ye yf yg yh : Int) , Inv ya yb yc yd ye yf yg yh → μ ya yb yc yd ye yf yg yh < N → wl8 f N ya yb yc yd ye yf yg yh := by
    intro N
    induction N with
    | zero => intro ya yb yc yd ye yf yg yh _ hl; exact absurd hl (Nat.not_lt_zero _)
    | succ N ih => intro ya yb yc yd ye yf yg yh hI hl; exact hs ya yb yc yd ye yf yg yh (wl8 f N) hI (fun ya1 yb1 yc1 yd1 ye1 yf1 yg1 yh1 hI1 hl1 => ih ya1 yb1 yc1 yd1 ye1 yf1 yg1 yh1 hI1 (by omega))
  exact ⟨μ ya yb yc yd ye yf yg yh + 1, hB, key _ ya yb yc yd ye yf yg yh h (Nat.lt_succ_self _)⟩
def wj8s (J : Int → Int → Int → Int → Int → Int → Int → Int → St → Prop) (B : (Int → Int → Int → Int → Int → Int → Int → Int → St → Prop) → Prop) : Prop := B J
theorem wj8s_intro {J : Int → Int → Int → Int → Int → Int → Int → Int → St → Prop} {B : (Int → Int → Int → Int → Int → Int → Int → Int → St → Prop) → Prop} (P : Int → Int → Int → Int → Int → Int → Int → Int → St → Prop) (hJ : ∀ (ya yb yc yd ye yf yg yh : Int) (τ : St) , P ya yb yc yd ye yf yg yh τ → J ya yb yc yd ye yf yg yh τ) (hB : ∀ J1 : Int → Int → Int → Int → Int → Int → Int → Int → St → Prop, (∀ (ya yb yc yd ye yf yg yh : Int) (τ : St) , P ya yb yc yd ye yf yg yh τ → J1 ya yb yc yd ye yf yg yh τ) → B J1) : wj8s J B := hB J hJ
def wl8s (f : Int → Int → Int → Int → Int → Int → Int → Int → St → (Int → Int → Int → Int → Int → Int → Int → Int → St → Prop) → Prop) : Nat → Int → Int → Int → Int → Int → Int → Int → Int → St → Prop
  | 0, _, _, _, _, _, _, _, _, _ => False
  | n + 1, ya, yb, yc, yd, ye, yf, yg, yh, τ => f ya yb yc yd ye yf yg yh τ (wl8s f n)
theorem wl8s_run {f : Int → Int → Int → Int → Int → Int → Int → Int → St → (Int → Int → Int → Int → Int → Int → Int → Int → St → Prop) → Prop} {P : Int → Int → Int → Int → Int → Int → Int → Int → St → Prop} (hs : ∀ (ya yb yc yd ye yf yg yh : Int) (τ : St) (ag : Int → Int → Int → Int → Int → Int → Int → Int → St → Prop), (∀ (ya1 yb1 yc1 yd1 ye1 yf1 yg1 yh1 : Int) (τ1 : St) , ag ya1 yb1 yc1 yd1 ye1 yf1 yg1 yh1 τ1 → P ya1 yb1 yc1 yd1 ye1 yf1 yg1 yh1 τ1) → f ya yb yc yd ye yf yg yh τ ag → P ya yb yc yd ye yf yg yh τ) {ya yb yc yd ye yf yg yh : Int} {τ : St} (h : ∃ n, wl8s f n ya yb yc yd ye yf yg yh τ) : P ya yb yc yd ye yf yg yh τ := by
  obtain ⟨n, h⟩ := h
  induction n generalizing ya yb yc yd ye yf yg yh τ with
  | zero => exact h.elim
  | succ n ih => exact hs ya yb yc yd ye yf yg yh τ (wl8s f n) (fun ya1 yb1 yc1 yd1 ye1 yf1 yg1 yh1 τ1 h1 => ih h1) h
theorem wl8s_inv {f : Int → Int → Int → Int → Int → Int → Int → Int → St → (Int → Int → Int → Int → Int → Int → Int → Int → St → Prop) → Prop} (Inv : Int → Int → Int → Int → Int → Int → Int → Int → St → Prop) (μ : Int → Int → Int → Int → Int → Int → Int → Int → St → Nat) (hs : ∀ (ya yb yc yd ye yf yg yh : Int) (τ : St) (ag : Int → Int → Int → Int → Int → Int → Int → Int → St → Prop), Inv ya yb yc yd ye yf yg yh τ → (∀ (ya1 yb1 yc1 yd1 ye1 yf1 yg1 yh1 : Int) (τ1 : St) , Inv ya1 yb1 yc1 yd1 ye1 yf1 yg1 yh1 τ1 → μ ya1 yb1 yc1 yd1 ye1 yf1 yg1 yh1 τ1 < μ ya yb yc yd ye yf yg yh τ → ag ya1 yb1 yc1 yd1 ye1 yf1 yg1 yh1 τ1) → f ya yb yc yd ye yf yg yh τ ag) {ya yb yc yd ye yf yg yh : Int} {τ : St} (h : Inv ya yb yc yd ye yf yg yh τ) : ∃ n, wl8s f n ya yb yc yd ye yf yg yh τ := by
  have key : ∀ N : Nat, ∀ (ya yb yc yd ye yf yg yh : Int) (τ : St) , Inv ya yb yc yd ye yf yg yh τ → μ ya yb yc yd ye yf yg yh τ < N → wl8s f N ya yb yc yd ye yf yg yh τ := by
    intro N
    induction N with
    | zero => intro ya yb yc yd ye yf yg yh τ _ hl; exact absurd hl (Nat.not_lt_zero _)
    | succ N ih => intro ya yb yc yd ye yf yg yh τ hI hl; exact hs ya yb yc yd ye yf yg yh τ (wl8s f N) hI (fun ya1 yb1 yc1 yd1 ye1 yf1 yg1 yh1 τ1 hI1 hl1 => ih ya1 yb1 yc1 yd1 ye1 yf1 yg1 yh1 τ1 hI1 (by omega))
  exact ⟨μ ya yb yc yd ye yf yg yh τ + 1, key _ ya yb yc yd ye yf yg yh τ h (Nat.lt_succ_self _)⟩
theorem wl8s_invB {f : Int → Int → Int → Int → Int → Int → Int → Int → St → (Int → Int → Int → Int → Int → Int → Int → Int → St → Prop) → Prop} (B : Nat) (Inv : Int → Int → Int → Int → Int → Int → Int → Int → St → Prop) (μ : Int → Int → Int → Int → Int → Int → Int → Int → St → Nat) (hs : ∀ (ya yb yc yd ye yf yg yh : Int) (τ : St) (ag : Int → Int → Int → Int → Int → Int → Int → Int → St → Prop), Inv ya yb yc yd ye yf yg yh τ → (∀ (ya1 yb1 yc1 yd1 ye1 yf1 yg1 yh1 : Int) (τ1 : St) , Inv ya1 yb1 yc1 yd1 ye1 yf1 yg1 yh1 τ1 → μ ya1 yb1 yc1 yd1 ye1 yf1 yg1 yh1 τ1 < μ ya yb yc yd ye yf yg yh τ → ag ya1 yb1 yc1 yd1 ye1 yf1 yg1 yh1 τ1) → f ya yb yc yd ye yf yg yh τ ag) {ya yb yc yd ye yf yg yh : Int} {τ : St} (h : Inv ya yb yc yd ye yf yg yh τ) (hB : μ ya yb yc yd ye yf yg yh τ + 1 ≤ B) : ∃ n, n ≤ B ∧ wl8s f n ya yb yc yd ye yf yg yh τ := by
  have key : ∀ N : Nat, ∀ (ya yb yc yd ye yf yg yh : Int) (τ : St) , Inv ya yb yc yd ye yf yg yh τ → μ ya yb yc yd ye yf yg yh τ < N → wl8s f N ya yb yc yd ye yf yg yh τ := by
    intro N
    induction N with
    | zero => intro ya yb yc yd ye yf yg yh τ _ hl; exact absurd hl (Nat.not_lt_zero _)
    | succ N ih => intro ya yb yc yd ye yf yg yh τ hI hl; exact hs ya yb yc yd ye yf yg yh τ (wl8s f N) hI (fun ya1 yb1 yc1 yd1 ye1 yf1 yg1 yh1 τ1 hI1 hl1 => ih ya1 yb1 yc1 yd1 ye1 yf1 yg1 yh1 τ1 hI1 (by omega))
  exact ⟨μ ya yb yc yd ye yf yg yh τ + 1, hB, key _ ya yb yc yd ye yf yg yh τ h (Nat.lt_succ_self _)⟩
end
section
/-! THE WORLD: all cells of the class (0 to 160) and the law's rows (161 g, 162 d, 163 e, 164 x; while they live: 165 old, 166 r); a store: what the cells hold, as whole numbers -/
abbrev vI (x : Int) : Value := .int (iI x)
abbrev vJ (x : Int) : Value := .long (iJ x)
-- fields: 0 a number or a truth value, 1 a long, d + 2 the cell d places behind this object's own
def flds : List (List Nat) := [[0, 0, 0, 0, 0, 0], [0, 3, 4, 0, 0, 5, 12, 23, 34, 0, 0, 0], [0, 3, 4, 5, 6, 7, 8, 9, 10, 0, 0, 11, 0, 12], [3, 4, 5, 6, 7, 0, 8, 9, 10, 11, 12, 13, 14], [3, 4, 5, 6, 7, 8], [3, 0, 4, 0, 0], [3, 16, 49, 62, 95, 110, 0, 0]]
def shps : List (Nat × Nat) := [(10, 0), (7, 0), (0, 40), (0, 40), (0, 40), (0, 40), (0, 40), (0, 12), (0, 12), (0, 12), (0, 60), (0, 5), (0, 5), (0, 4), (5, 0), (1, 40), (1, 40), (8, 0), (0, 12), (0, 72), (0, 12), (0, 72), (0, 72), (0, 72), (6, 0), (0, 77), (0, 77), (0, 77), (0, 77), (0, 77), (0, 77), (0, 77), (0, 77), (0, 12), (1, 5), (6, 0), (0, 77), (0, 77), (0, 77), (0, 77), (0, 77), (0, 77), (0, 77), (0, 77), (0, 12), (1, 5), (4, 0), (7, 0), (0, 40), (0, 40), (0, 40), (0, 40), (0, 40), (0, 12), (0, 12), (0, 12), (0, 60), (0, 5), (0, 5), (0, 4), (5, 0), (1, 40), (1, 40), (8, 0), (0, 12), (0, 72), (0, 12), (0, 72), (0, 72), (0, 72), (6, 0), (0, 77), (0, 77), (0, 77), (0, 77), (0, 77), (0, 77), (0, 77), (0, 77), (0, 12), (1, 5), (6, 0), (0, 77), (0, 77), (0, 77), (0, 77), (0, 77), (0, 77), (0, 77), (0, 77), (0, 12), (1, 5), (4, 0), (9, 0), (0, 160), (7, 0), (0, 40), (0, 40), (0, 40), (0, 40), (0, 40), (0, 12), (0, 12), (0, 12), (0, 60), (0, 5), (0, 5), (0, 4), (2, 109), (7, 0), (0, 40), (0, 40), (0, 40), (0, 40), (0, 40), (0, 12), (0, 12), (0, 12), (0, 60), (0, 5), (0, 5), (0, 4), (7, 0), (0, 40), (0, 40), (0, 40), (0, 40), (0, 40), (0, 12), (0, 12), (0, 12), (0, 60), (0, 5), (0, 5), (0, 4), (7, 0), (0, 40), (0, 40), (0, 40), (0, 40), (0, 40), (0, 12), (0, 12), (0, 12), (0, 60), (0, 5), (0, 5), (0, 4), (7, 0), (0, 40), (0, 40), (0, 40), (0, 40), (0, 40), (0, 12), (0, 12), (0, 12), (0, 60), (0, 5), (0, 5), (0, 4), (0, 15), (0, 32), (0, 60), (0, 64), (0, 64), (0, 12)]
def shp (k : Nat) : Nat × Nat := shps.getD k (99, 0)
def fty (ci j : Nat) : Nat := (flds.getD ci []).getD j 0
def nfl (ci : Nat) : Nat := (flds.getD ci []).length
abbrev XI : Type := ClassId × ClassId × ClassId
def fval (ad : Nat → Nat) (k : Nat) (f : Int → Int) (ci j : Nat) : Value := match fty ci j with
  | 0 => .int (iI (f j))
  | 1 => .long (iJ (f j))
  | d + 2 => .ref (ad (k + d))
def cel (X : XI) (ad : Nat → Nat) (k : Nat) (f : Int → Int) : va_E := match shp k with
  | (0, n) => .inl (X.1, n, .inl (fun j => iI (f j)))
  | (1, n) => .inl (X.2.1, n, .inl (fun j => iI (f j)))
  | (2, n) => .inl (X.2.2, 4, .inr (.inr (.inr (.inr (fun j => some (ad (n + 13 * j)))))))
  | (3, n) => .inl (X.2.2, n, .inr (.inl (fun j => iJ (f j))))
  | (c + 4, _) => .inr (c, (List.range (nfl c)).map (fval ad k f c))
def tysO (X : XI) : List (ClassId × FieldType) := [(X.1, .int), (X.2.1, .boolean), (X.2.2, .object "SightLegend$MapState")]
/-- how many cells there are -/
def nW (ad : Nat → Nat) : Nat := ad 1000
def wsO (X : XI) (ad : Nat → Nat) (σ : St) : va_W := (List.range (nW ad)).map (fun k => (ad k, cel X ad k (σ k)))
def tyc (k : Nat) (t : Nat × Nat) : Prop := k < 165 ∧ shp k = t
def tyw (ad : Nat → Nat) (k : Nat) (t : Nat × Nat) : Prop := k < nW ad ∧ shp k = t
def adI (ad : Nat → Nat) : Prop := (165 ≤ nW ad ∧ nW ad ≤ 167) ∧ ∀ i j : Nat, i < nW ad → j < nW ad → ad i = ad j → i = j
theorem tw {ad : Nat → Nat} (h : adI ad) {k : Nat} {t : Nat × Nat} (hb : tyc k t) : tyw ad k t := ⟨Nat.lt_of_lt_of_le hb.1 h.1.1, hb.2⟩
theorem ty_of {t t1 : Nat × Nat} {d : Nat} (hd : (List.range 165).all (fun k => !(shp k == t) || (decide (k + d < 165) && shp (k + d) == t1)) = true) {b q : Nat} (hq : b + d = q) (h : tyc b t) : tyc q t1 := by
  subst hq
  have h1 := List.all_eq_true.mp hd b (List.mem_range.mpr h.1)
  simp only [h.2, beq_self_eq_true, Bool.not_true, Bool.false_or, Bool.and_eq_true, decide_eq_true_eq, beq_iff_eq] at h1
  exact h1
def AA (ad : Nat → Nat) (sz : Nat) : Nat → Prop := fun q => (∃ k : Nat, k < nW ad ∧ q = ad k) ∨ sz ≤ q
def hset : Nat → Value := fun j => .int (iI (match j with | 0 => 6 | 1 => 4 | 2 => 60 | _ => 20))
def strs : List (Nat × String) := [(54, "the map is full"), (94, "the setting is out of its range"), (108, "there is no such group"), (114, "the limit is out of its range"), (123, "the kind has all its limits"), (155, "there is no such line"), (205, "the text is full"), (225, "there is no saved state"), (286, "there is no such sign"), (288, "there is no such kind"), (290, "an argument is out of its range"), (292, "the window has no such size")]
def sups : List String := ["java/lang/RuntimeException", "java/lang/Exception", "java/lang/Throwable"]
def exs : List String := ["java/lang/IndexOutOfBoundsException", "java/lang/IllegalArgumentException", "java/lang/IllegalStateException"]
def StF (A : Nat → Prop) (U : State) (H : Heap) : Prop := vx_Zq Bundle.tN "UNASSIGNED_STACK" Bundle.steD A U H ∧ vx_Zq Bundle.tN "SUPPRESSED_SENTINEL" Bundle.listD A U H ∧ (∃ ht : Nat, va_Z "SightLegend" "HIGHEST_SETTING" "[I" (.ref ht) A U H ∧ va_T .int ht 4 hset A U H) ∧ (∀ q ∈ strs, ∃ sa : Nat, vk_R "SightLegend" q.1 q.2 sa U) ∧ (∀ E ∈ exs, va_Nw (.castable E E) U) ∧ (∀ E ∈ sups, va_Nw (.declares (Bundle.initS E)) U) ∧ ∀ E ∈ exs, ∀ F ∈ exs, E ≠ F → va_Nc E F U
theorem StF.go {A B : Nat → Prop} {s U : State} {H H1 : Heap} (hW : s.WarmedH U.vm) (h : StF A s H) (hq : ∀ a : Nat, a < H.size → ¬ A a → H1[a]? = H[a]?) (hAB : ∀ q, B q → A q) : StF B U H1 := by
  obtain ⟨h1, h2, ⟨ht, h3, h4⟩, h5, h6, h7, h8⟩ := h
  refine ⟨((vx_Zq.moved hW.alike h1).kept hq).narrow hAB, ((vx_Zq.moved hW.alike h2).kept hq).narrow hAB, ⟨ht, ((va_Z.moved hW.alike h3).kept hq).narrow hAB, ((va_T.moved hW.alike h4).kept hq).narrow hAB⟩, fun q hm => ?_, fun E hE => va_Nw.warmC hW (h6 E hE), fun E hE => va_Nw.warmD hW (h7 E hE), fun E hE F hF hn => va_Nc.moved hW.alike (h8 E hE F hF hn)⟩
  obtain ⟨sa, hr⟩ := h5 q hm
  exact ⟨sa, vk_R.warm hW hr⟩
theorem ws_get {X : XI} {ad : Nat → Nat} {σ : St} {k : Nat} (h : k < nW ad) : (wsO X ad σ)[k]? = some (ad k, cel X ad k (σ k)) := by
  simp only [wsO, List.getElem?_map, List.getElem?_range h, Option.map_some]
theorem ws_put {X : XI} {ad : Nat → Nat} {σ σ1 : St} {k : Nat} {e : va_E} (hk : k < nW ad) (h : ∀ j : Nat, j ≠ k → σ1 j = σ j) (he : cel X ad k (σ1 k) = e) : (wsO X ad σ).set k (ad k, e) = wsO X ad σ1 := by
  refine List.ext_getElem? fun j => ?_
  by_cases hj : j < nW ad
  · rw [ws_get hj]
    by_cases e1 : j = k
    · subst e1
      rw [List.getElem?_set_self (by simp [wsO, hk]), he]
    · rw [List.getElem?_set_ne (Ne.symm e1), ws_get hj, h j e1]
  · rw [List.getElem?_eq_none (by simp [wsO]; omega), List.getElem?_eq_none (by simp [wsO]; omega)]
theorem ws_D {X : XI} {ad : Nat → Nat} {σ : St} {sz : Nat} (h : adI ad) : va_D (AA ad sz) (wsO X ad σ) := by
  have lt : ∀ (i : Nat) (q : Nat × va_E), (wsO X ad σ)[i]? = some q → i < nW ad ∧ q.1 = ad i := by
    intro i q hq
    have hi : i < nW ad := by
      have := (List.getElem?_eq_some_iff.mp hq).1
      simpa [wsO] using this
    rw [ws_get hi] at hq
    cases hq
    exact ⟨hi, rfl⟩
  refine ⟨fun i j p q hi hj hpq => ?_, fun k q hk => ?_⟩
  · obtain ⟨h1, h2⟩ := lt i p hi
    obtain ⟨h3, h4⟩ := lt j q hj
    exact h.2 i j h1 h3 (by rw [← h2, ← h4, hpq])
  · obtain ⟨h1, h2⟩ := lt k q hk
    exact Or.inl ⟨k, h1, h2⟩
theorem fv_get {ad : Nat → Nat} {k : Nat} {f : Int → Int} {ci j : Nat} (h : j < nfl ci) : ((List.range (nfl ci)).map (fval ad k f ci))[j]? = some (fval ad k f ci j) := by
  simp only [List.getElem?_map, List.getElem?_range h, Option.map_some]
theorem fv_set {ad : Nat → Nat} {k : Nat} {f g : Int → Int} {ci j : Nat} {v : Value} (h : j < nfl ci) (hg : ∀ i : Int, i ≠ j → g i = f i) (hv : fval ad k g ci j = v) : ((List.range (nfl ci)).map (fval ad k f ci)).set j v = (List.range (nfl ci)).map (fval ad k g ci) := by
  refine List.ext_getElem? fun i => ?_
  by_cases hi : i < nfl ci
  · rw [fv_get hi]
    by_cases e1 : i = j
    · subst e1
      rw [List.getElem?_set_self (by simp [h]), hv]
    · rw [List.getElem?_set_ne (Ne.symm e1), fv_get hi]
      have hx : g (i : Int) = f (i : Int) := hg i (fun q => e1 (Int.ofNat.inj q))
      simp only [fval, hx]
  · rw [List.getElem?_eq_none (by simp; omega), List.getElem?_eq_none (by simp; omega)]
theorem cel0 {X : XI} {ad : Nat → Nat} {k n : Nat} {f : Int → Int} (h : shp k = (0, n)) : cel X ad k f = .inl (X.1, n, .inl (fun j => iI (f j))) := by simp only [cel, h]
theorem cel1 {X : XI} {ad : Nat → Nat} {k n : Nat} {f : Int → Int} (h : shp k = (1, n)) : cel X ad k f = .inl (X.2.1, n, .inl (fun j => iI (f j))) := by simp only [cel, h]
theorem cel2 {X : XI} {ad : Nat → Nat} {k n : Nat} {f : Int → Int} (h : shp k = (2, n)) : cel X ad k f = .inl (X.2.2, 4, .inr (.inr (.inr (.inr (fun j => some (ad (n + 13 * j))))))) := by simp only [cel, h]
theorem celO {X : XI} {ad : Nat → Nat} {k ci : Nat} {f : Int → Int} (h : shp k = (ci + 4, 0)) : cel X ad k f = .inr (ci, (List.range (nfl ci)).map (fval ad k f ci)) := by simp only [cel, h]
theorem iI_toInt {x : Int} (h : Rg x) : (iI x).toInt = x := Int32.toInt_ofInt_of_le (by omega) (by omega)
theorem iI_back (x : Int32) : iI x.toInt = x := Int32.ofInt_toInt x
theorem iI_lt {x y : Int} (hx : Rg x) (hy : Rg y) : iI x < iI y ↔ x < y := by rw [Int32.lt_iff_toInt_lt, iI_toInt hx, iI_toInt hy]
theorem iI_le {x y : Int} (hx : Rg x) (hy : Rg y) : iI x ≤ iI y ↔ x ≤ y := by rw [Int32.le_iff_toInt_le, iI_toInt hx, iI_toInt hy]
theorem iI_eq {x y : Int} (hx : Rg x) (hy : Rg y) : iI x = iI y ↔ x = y := by rw [← Int32.toInt_inj, iI_toInt hx, iI_toInt hy]
theorem iI_0 : (0 : Int32) = iI 0 := by decide +kernel
theorem iI_in {i : Int} {n : Nat} (h : 0 ≤ i ∧ i < n) (hn : n < 2147483648) : vp_in (iI i) n ∧ (iI i).toNatClampNeg = i.toNat := by
  have hr : (iI i).toInt = i := iI_toInt ⟨by omega, by omega⟩
  refine ⟨vp_in_iff.mpr ⟨by omega, by omega⟩, ?_⟩
  rw [← Int32.toNat_toInt, hr]
theorem iI_up {f : Int → Int} {i v : Int} (h : 0 ≤ i) : upd (fun j : Nat => iI (f j)) i.toNat (iI v) = fun j : Nat => iI (if (j : Int) = i then v else f j) := by
  funext j
  by_cases hj : j = i.toNat
  · have q : (j : Int) = i := by omega
    rw [upd, if_pos hj, if_pos q]
  · have q : ¬ (j : Int) = i := by omega
    rw [upd, if_neg hj, if_neg q]
theorem iJ_up {f : Int → Int} {i v : Int} (h : 0 ≤ i) : vp_updL (fun j : Nat => iJ (f j)) i.toNat (iJ v) = fun j : Nat => iJ (if (j : Int) = i then v else f j) := by
  funext j
  by_cases hj : j = i.toNat
  · have q : (j : Int) = i := by omega
    rw [vp_updL, if_pos hj, if_pos q]
  · have q : ¬ (j : Int) = i := by omega
    rw [vp_updL, if_neg hj, if_neg q]
theorem up2_ne {σ : St} {c : Nat} {i v : Int} : ∀ j : Nat, j ≠ c → up2 σ c i v j = σ j := fun j h => by funext i1; simp [up2, h]
theorem bl_nar {x : Int} (h : Bl x) : narrow .boolean (.int (iI x)) = .int (iI x) := by rcases h with rfl | rfl <;> rfl
theorem bl_vp {x : Int} (h : Bl x) : vp_nar .boolean (iI x) = iI x := by rcases h with rfl | rfl <;> rfl
theorem bl_fit {x : Int} (h : Bl x) : fits .boolean (.int (iI x)) = true := by rcases h with rfl | rfl <;> rfl
/-! bits -/
def bA (x y : Int) : Int := (iI x &&& iI y).toInt
def bO (x y : Int) : Int := (iI x ||| iI y).toInt
def bX (x y : Int) : Int := (iI x ^^^ iI y).toInt
def bL (x y : Int) : Int := (iI x <<< (iI y &&& 31)).toInt
def bR (x y : Int) : Int := (iI x >>> (iI y &&& 31)).toInt
/-! a cell more -/
def zr (σ : St) (N : Nat) : St := fun c i => if c = N then 0 else σ c i
def adP (ad : Nat → Nat) (N A : Nat) : Nat → Nat := fun k => if k = N then A else if k = 1000 then N + 1 else ad k
def ckC (k : Nat) : Bool := match shp k with
  | (0, _) => true
  | (1, _) => true
  | (2, n) => n == 109
  | (3, _) => false
  | (c + 4, _) => (List.range (nfl c)).all (fun j => decide (fty c j < 2) || decide (k + (fty c j - 2) < 161))
theorem cel_adP {X : XI} {ad : Nat → Nat} {N A k : Nat} {f : Int → Int} (hN : N = 165 ∨ N = 166) (hk : k < 167) : cel X (adP ad N A) k f = cel X ad k f := by
  have h2 : ∀ j : Nat, adP ad N A (109 + 13 * j) = ad (109 + 13 * j) := fun j => by
    unfold adP
    rw [if_neg (by omega), if_neg (by omega)]
  have hq : ∀ k : Nat, k < 167 → ckC k = true := by decide +kernel
  have h3 := hq k hk
  unfold ckC at h3
  unfold cel
  split
  · rfl
  · rfl
  · rename_i n e
    rw [e] at h3
    have : n = 109 := by simpa using h3
    subst this
    simp only [h2]
  · rename_i n e
    rw [e] at h3
  · rename_i c n e
    rw [e] at h3
    congr 2
    refine List.map_congr_left fun j hj => ?_
    have h4 := List.all_eq_true.mp (by simpa using h3 : (List.range (nfl c)).all (fun j => decide (fty c j < 2) || decide (k + (fty c j - 2) < 161)) = true) j hj
    unfold fval
    split
    · rfl
    · rfl
    · rename_i d e2
      rw [e2] at h4
      have h5 : k + d < 161 := by
        have h6 : d + 1 + 1 < 2 ∨ k + d < 161 := by simpa using h4
        omega
      congr 1
      unfold adP
      rw [if_neg (by omega), if_neg (by omega)]
/-! THE JUDGEMENT -/
def AM (p : Program) (l : Launch) (e : Env) (s : State) (m : MethodId) (args : Array Value) (meth : Method) (c : Code) (own : String) (Ts : List Cond) (cc : ByteArray) (nL : Nat) (D : va_G) (X : XI) (ad : Nat → Nat) : Prop :=
  CallFix p m c cc nL s args Ts own ∧ va_K D vwCl (tysO X) s ∧ adI ad ∧ StF (AA ad s.heap.size) s s.heap ∧ meth.locks = false ∧ l.stackTraces = false
def GG (p : Program) (l : Launch) (e : Env) (R : Room) (s : State) (m : MethodId) (args : Array Value) (below : List Frame) (meth : Method) (c : Code) (cells slots : Nat) (Q : State → Prop) (D : va_G) (X : XI) (ad : Nat → Nat) (nL : Nat) (pc : Nat) (ls : List (Nat × Value)) (st : List Value) (σ : St) : Prop :=
  ∀ (H : Heap) (locs : List Loc) (la : Array Slot), va_P D vwCl (wsO X ad σ) H → va_S (AA ad s.heap.size) s.heap H locs → lv_has la nL ls → W p l e R s m args below meth c H locs cells slots Q (F0 m pc la st)
def WD (D : va_G) (X : XI) (ad : Nat → Nat) (σ : St) (sz : Nat) : State → Prop := fun U => U.heap.size = sz ∧ va_P D vwCl (wsO X ad σ) U.heap ∧ va_K D vwCl (tysO X) U ∧ StF (AA ad sz) U U.heap
def QI (D : va_G) (X : XI) (ad : Nat → Nat) (sz : Nat) (K : Int → St → Prop) : Array Value → State → Outcome → State → Prop := va_Qi (S := Int × St) (fun r u => r = iI u.1 ∧ K u.1 u.2) (fun u t => va_P D vwCl (wsO X ad u.2) t.heap) (AA ad sz)
def QJ (D : va_G) (X : XI) (ad : Nat → Nat) (sz : Nat) (K : Int → St → Prop) : Array Value → State → Outcome → State → Prop := va_Ql (S := Int × St) (fun r u => r = iJ u.1 ∧ K u.1 u.2) (fun u t => va_P D vwCl (wsO X ad u.2) t.heap) (AA ad sz)
def QV (D : va_G) (X : XI) (ad : Nat → Nat) (sz : Nat) (K : St → Prop) : Array Value → State → Outcome → State → Prop := va_Qv (S := St) (fun u => K u) (fun u t => va_P D vwCl (wsO X ad u) t.heap) (AA ad sz)
def QD (D : va_G) (X : XI) (ad : Nat → Nat) (sz : Nat) (K : UInt64 → St → Prop) : Array Value → State → Outcome → State → Prop := va_Qd (S := UInt64 × St) (fun r u => r = u.1 ∧ K u.1 u.2) (fun u t => va_P D vwCl (wsO X ad u.2) t.heap) (AA ad sz)
def eNm (k : Nat) : String := match k with
  | 1 => "java/lang/IndexOutOfBoundsException"
  | 2 => "java/lang/IllegalArgumentException"
  | _ => "java/lang/IllegalStateException"
def XX (D : va_G) (X : XI) (ad : Nat → Nat) (sz : Nat) (Kx : Nat → St → Prop) : String → State → State → Prop := vx_X (S := Nat × St) (fun u => Kx u.1 u.2) (fun E u t => E = eNm u.1 ∧ va_P D vwCl (wsO X ad u.2) t.heap) (AA ad sz)
theorem ex_B {args : Array Value} {s : State} {c : Cond} (h1 : c.before args s = true) (h2 : ∀ E ∈ sups, (Cond.declares (Bundle.initS E)).before args s = true) : ∀ w ∈ c :: sups.map (fun x => Cond.declares (Bundle.initS x)), w.before args s = true := by
  intro w hw
  rcases List.mem_cons.mp hw with rfl | hw
  · exact h1
  · obtain ⟨E, hE, rfl⟩ := List.mem_map.mp hw
    exact h2 E hE
theorem AA_put {ad : Nat → Nat} {sz k : Nat} (h : k < nW ad) : AA ad sz (ad k) := Or.inl ⟨k, h, rfl⟩
theorem AA_sub {ad : Nat → Nat} {s0 s1 q : Nat} (h : s0 ≤ s1) (hq : AA ad s1 q) : AA ad s0 q := hq.elim Or.inl (fun z => Or.inr (Nat.le_trans h z))
section MACH
variable {p : Program} {l : Launch} {e : Env} {R : Room} {s : State} {m : MethodId} {args : Array Value} {below : List Frame} {meth : Method} {c : Code} {cells slots : Nat} {Q : State → Prop} {D : va_G} {X : XI} {ad : Nat → Nat} {nL pc : Nat} {ls ls1 : List (Nat × Value)} {st : List Value} {σ : St} {own : String} {Ts : List Cond} {cc : ByteArray}
theorem a_sub (ks : List Nat) (hp : lv_pick ls ks = ls1) (k : GG p l e R s m args below meth c cells slots Q D X ad nL pc ls1 st σ) : GG p l e R s m args below meth c cells slots Q D X ad nL pc ls st σ := fun H locs la hP hS hl => k H locs la hP hS (lv_sub hl ks hp)
theorem a_iconst (a : AM p l e s m args meth c own Ts cc nL D X ad) {n : Int} (hdg : decode cc pc = .ok (.iconst n, 1))
    (k : GG p l e R s m args below meth c cells slots Q D X ad nL (pc + 1) ls (vI n :: st) σ) : GG p l e R s m args below meth c cells slots Q D X ad nL pc ls (st) σ := by
  intro H locs la hP hS hl
  exact lv_iconst a.1.1 a.1.2.1 hdg rfl (k H locs la hP hS hl)
theorem a_bipush (a : AM p l e s m args meth c own Ts cc nL D X ad) {n : Int} (hdg : decode cc pc = .ok (.bipush n, 2)) (hn : -128 ≤ n ∧ n < 128)
    (k : GG p l e R s m args below meth c cells slots Q D X ad nL (pc + 2) ls (vI n :: st) σ) : GG p l e R s m args below meth c cells slots Q D X ad nL pc ls (st) σ := by
  intro H locs la hP hS hl
  refine lv_bipush a.1.1 a.1.2.1 hdg ?_ (k H locs la hP hS hl)
  rw [← Int32.toInt_inj, Int8.toInt_toInt32, Int8.toInt_ofInt_of_le (by omega) (by omega), iI_toInt ⟨by omega, by omega⟩]
theorem a_sipush (a : AM p l e s m args meth c own Ts cc nL D X ad) {n : Int} (hdg : decode cc pc = .ok (.sipush n, 3)) (hn : -32768 ≤ n ∧ n < 32768)
    (k : GG p l e R s m args below meth c cells slots Q D X ad nL (pc + 3) ls (vI n :: st) σ) : GG p l e R s m args below meth c cells slots Q D X ad nL pc ls (st) σ := by
  intro H locs la hP hS hl
  refine lv_sipush a.1.1 a.1.2.1 hdg ?_ (k H locs la hP hS hl)
  rw [← Int32.toInt_inj, Int16.toInt_toInt32, Int16.toInt_ofInt_of_le (by omega) (by omega), iI_toInt ⟨by omega, by omega⟩]
theorem a_ldc2 (a : AM p l e s m args meth c own Ts cc nL D X ad) {ix : Nat} {n : Int} (hw : (Cond.constantLong own ix (iJ n)).before args s = true) (hdg : decode cc pc = .ok (.ldc2_w ix, 3))
    (k : GG p l e R s m args below meth c cells slots Q D X ad nL (pc + 3) ls (vJ n :: st) σ) : GG p l e R s m args below meth c cells slots Q D X ad nL pc ls (st) σ := by
  intro H locs la hP hS hl
  exact lv_ldc2 a.1.1 a.1.2.1 a.1.2.2.2.1 hw hdg (k H locs la hP hS hl)
theorem a_iload_n (a : AM p l e s m args meth c own Ts cc nL D X ad) {kk : Fin 4} {i : Nat} {x : Int} (j : Nat) (hdg : decode cc pc = .ok (.iload_n kk, 1)) (hi : (kk : Nat) = i) (hj : ls[j]? = some (i, vI x))
    (k : GG p l e R s m args below meth c cells slots Q D X ad nL (pc + 1) ls (vI x :: st) σ) : GG p l e R s m args below meth c cells slots Q D X ad nL pc ls (st) σ := by
  intro H locs la hP hS hl
  exact lv_iload_n a.1.1 a.1.2.1 hdg hi (lv_at hl j hj) (k H locs la hP hS hl)
theorem a_iload (a : AM p l e s m args meth c own Ts cc nL D X ad) {i : Nat} {x : Int} (j : Nat) (hdg : decode cc pc = .ok (.iload i, 2)) (hj : ls[j]? = some (i, vI x))
    (k : GG p l e R s m args below meth c cells slots Q D X ad nL (pc + 2) ls (vI x :: st) σ) : GG p l e R s m args below meth c cells slots Q D X ad nL pc ls (st) σ := by
  intro H locs la hP hS hl
  exact lv_iload a.1.1 a.1.2.1 hdg (lv_at hl j hj) (k H locs la hP hS hl)
theorem a_istore_n (a : AM p l e s m args meth c own Ts cc nL D X ad) {kk : Fin 4} {i : Nat} {x : Int} (hdg : decode cc pc = .ok (.istore_n kk, 1)) (hi : (kk : Nat) = i) (hn : i < nL) (hl1 : (i, vI x) :: ls.filter (fun q => !(q.1 == i) && !(q.1 + 1 == i && q.2.category == 2)) = ls1)
    (k : GG p l e R s m args below meth c cells slots Q D X ad nL (pc + 1) ls1 (st) σ) : GG p l e R s m args below meth c cells slots Q D X ad nL pc ls (vI x :: st) σ := by
  intro H locs la hP hS hl
  exact lv_istore_n a.1.1 a.1.2.1 hdg hi hl hn hl1 (fun la1 hl2 => k H locs la1 hP hS hl2)
theorem a_istore (a : AM p l e s m args meth c own Ts cc nL D X ad) {i : Nat} {x : Int} (hdg : decode cc pc = .ok (.istore i, 2)) (hn : i < nL) (hl1 : (i, vI x) :: ls.filter (fun q => !(q.1 == i) && !(q.1 + 1 == i && q.2.category == 2)) = ls1)
    (k : GG p l e R s m args below meth c cells slots Q D X ad nL (pc + 2) ls1 (st) σ) : GG p l e R s m args below meth c cells slots Q D X ad nL pc ls (vI x :: st) σ := by
  intro H locs la hP hS hl
  exact lv_istore a.1.1 a.1.2.1 hdg hl hn hl1 (fun la1 hl2 => k H locs la1 hP hS hl2)
theorem a_lload_n (a : AM p l e s m args meth c own Ts cc nL D X ad) {kk : Fin 4} {i : Nat} {x : Int} (j : Nat) (hdg : decode cc pc = .ok (.lload_n kk, 1)) (hi : (kk : Nat) = i) (hj : ls[j]? = some (i, vJ x))
    (k : GG p l e R s m args below meth c cells slots Q D X ad nL (pc + 1) ls (vJ x :: st) σ) : GG p l e R s m args below meth c cells slots Q D X ad nL pc ls (st) σ := by
  intro H locs la hP hS hl
  exact lv_lload_n a.1.1 a.1.2.1 hdg hi (lv_at hl j hj) (k H locs la hP hS hl)
theorem a_lload (a : AM p l e s m args meth c own Ts cc nL D X ad) {i : Nat} {x : Int} (j : Nat) (hdg : decode cc pc = .ok (.lload i, 2)) (hj : ls[j]? = some (i, vJ x))
    (k : GG p l e R s m args below meth c cells slots Q D X ad nL (pc + 2) ls (vJ x :: st) σ) : GG p l e R s m args below meth c cells slots Q D X ad nL pc ls (st) σ := by
  intro H locs la hP hS hl
  exact lv_lload a.1.1 a.1.2.1 hdg (lv_at hl j hj) (k H locs la hP hS hl)
theorem a_lstore_n (a : AM p l e s m args meth c own Ts cc nL D X ad) {kk : Fin 4} {i : Nat} {x : Int} (hdg : decode cc pc = .ok (.lstore_n kk, 1)) (hi : (kk : Nat) = i) (hn : i + 1 < nL) (hl1 : (i, vJ x) :: ls.filter (fun q => !(q.1 == i) && (!(q.1 == i + 1) && !(q.1 + 1 == i && q.2.category == 2))) = ls1)
    (k : GG p l e R s m args below meth c cells slots Q D X ad nL (pc + 1) ls1 (st) σ) : GG p l e R s m args below meth c cells slots Q D X ad nL pc ls (vJ x :: st) σ := by
  intro H locs la hP hS hl
  exact lv_lstore_n a.1.1 a.1.2.1 hdg hi hl hn hl1 (fun la1 hl2 => k H locs la1 hP hS hl2)
theorem a_lstore (a : AM p l e s m args meth c own Ts cc nL D X ad) {i : Nat} {x : Int} (hdg : decode cc pc = .ok (.lstore i, 2)) (hn : i + 1 < nL) (hl1 : (i, vJ x) :: ls.filter (fun q => !(q.1 == i) && (!(q.1 == i + 1) && !(q.1 + 1 == i && q.2.category == 2))) = ls1)
    (k : GG p l e R s m args below meth c cells slots Q D X ad nL (pc + 2) ls1 (st) σ) : GG p l e R s m args below meth c cells slots Q D X ad nL pc ls (vJ x :: st) σ := by
  intro H locs la hP hS hl
  exact lv_lstore a.1.1 a.1.2.1 hdg hl hn hl1 (fun la1 hl2 => k H locs la1 hP hS hl2)
theorem a_aload_n (a : AM p l e s m args meth c own Ts cc nL D X ad) {kk : Fin 4} {i : Nat} {q : Nat} (j : Nat) (hdg : decode cc pc = .ok (.aload_n kk, 1)) (hi : (kk : Nat) = i) (hj : ls[j]? = some (i, Value.ref q))
    (k : GG p l e R s m args below meth c cells slots Q D X ad nL (pc + 1) ls (Value.ref q :: st) σ) : GG p l e R s m args below meth c cells slots Q D X ad nL pc ls (st) σ := by
  intro H locs la hP hS hl
  exact lv_aload_n a.1.1 a.1.2.1 hdg hi (lv_at hl j hj) (k H locs la hP hS hl)
theorem a_aload (a : AM p l e s m args meth c own Ts cc nL D X ad) {i : Nat} {q : Nat} (j : Nat) (hdg : decode cc pc = .ok (.aload i, 2)) (hj : ls[j]? = some (i, Value.ref q))
    (k : GG p l e R s m args below meth c cells slots Q D X ad nL (pc + 2) ls (Value.ref q :: st) σ) : GG p l e R s m args below meth c cells slots Q D X ad nL pc ls (st) σ := by
  intro H locs la hP hS hl
  exact lv_aload a.1.1 a.1.2.1 hdg (lv_at hl j hj) (k H locs la hP hS hl)
theorem a_astore_n (a : AM p l e s m args meth c own Ts cc nL D X ad) {kk : Fin 4} {i : Nat} {q : Nat} (hdg : decode cc pc = .ok (.astore_n kk, 1)) (hi : (kk : Nat) = i) (hn : i < nL) (hl1 : (i, Value.ref q) :: ls.filter (fun q => !(q.1 == i) && !(q.1 + 1 == i && q.2.category == 2)) = ls1)
    (k : GG p l e R s m args below meth c cells slots Q D X ad nL (pc + 1) ls1 (st) σ) : GG p l e R s m args below meth c cells slots Q D X ad nL pc ls (Value.ref q :: st) σ := by
  intro H locs la hP hS hl
  exact lv_astore_n a.1.1 a.1.2.1 hdg hi hl hn hl1 (fun la1 hl2 => k H locs la1 hP hS hl2)
theorem a_astore (a : AM p l e s m args meth c own Ts cc nL D X ad) {i : Nat} {q : Nat} (hdg : decode cc pc = .ok (.astore i, 2)) (hn : i < nL) (hl1 : (i, Value.ref q) :: ls.filter (fun q => !(q.1 == i) && !(q.1 + 1 == i && q.2.category == 2)) = ls1)
    (k : GG p l e R s m args below meth c cells slots Q D X ad nL (pc + 2) ls1 (st) σ) : GG p l e R s m args below meth c cells slots Q D X ad nL pc ls (Value.ref q :: st) σ := by
  intro H locs la hP hS hl
  exact lv_astore a.1.1 a.1.2.1 hdg hl hn hl1 (fun la1 hl2 => k H locs la1 hP hS hl2)
theorem a_iinc (a : AM p l e s m args meth c own Ts cc nL D X ad) {i : Nat} {n x : Int} (j : Nat) (hdg : decode cc pc = .ok (.iinc i n, 3)) (hj : ls[j]? = some (i, vI x)) (hn : i < nL) (hl1 : (i, vI (x + n)) :: ls.filter (fun q => !(q.1 == i) && !(q.1 + 1 == i && q.2.category == 2)) = ls1)
    (k : GG p l e R s m args below meth c cells slots Q D X ad nL (pc + 3) ls1 (st) σ) : GG p l e R s m args below meth c cells slots Q D X ad nL pc ls (st) σ := by
  intro H locs la hP hS hl
  exact lv_iinc a.1.1 a.1.2.1 hdg hl hj (Int32.ofInt_add x n).symm hn hl1 (fun la1 hl2 => k H locs la1 hP hS hl2)
theorem a_iadd (a : AM p l e s m args meth c own Ts cc nL D X ad) {x y : Int} (hdg : decode cc pc = .ok (.iadd, 1))
    (k : GG p l e R s m args below meth c cells slots Q D X ad nL (pc + 1) ls (vI (x + y) :: st) σ) : GG p l e R s m args below meth c cells slots Q D X ad nL pc ls (vI y :: vI x :: st) σ := by
  intro H locs la hP hS hl
  refine lv_iadd a.1.1 a.1.2.1 hdg ?_
  have h := k H locs la hP hS hl
  rwa [show vI (x + y) = Value.int (iI x + iI y) from congrArg Value.int (Int32.ofInt_add x y)] at h
theorem a_isub (a : AM p l e s m args meth c own Ts cc nL D X ad) {x y : Int} (hdg : decode cc pc = .ok (.isub, 1))
    (k : GG p l e R s m args below meth c cells slots Q D X ad nL (pc + 1) ls (vI (x - y) :: st) σ) : GG p l e R s m args below meth c cells slots Q D X ad nL pc ls (vI y :: vI x :: st) σ := by
  intro H locs la hP hS hl
  refine lv_isub a.1.1 a.1.2.1 hdg ?_
  have h := k H locs la hP hS hl
  rwa [show vI (x - y) = Value.int (iI x - iI y) from congrArg Value.int (Int32.ofInt_sub x y)] at h
theorem a_imul (a : AM p l e s m args meth c own Ts cc nL D X ad) {x y : Int} (hdg : decode cc pc = .ok (.imul, 1))
    (k : GG p l e R s m args below meth c cells slots Q D X ad nL (pc + 1) ls (vI (x * y) :: st) σ) : GG p l e R s m args below meth c cells slots Q D X ad nL pc ls (vI y :: vI x :: st) σ := by
  intro H locs la hP hS hl
  refine lv_imul a.1.1 a.1.2.1 hdg ?_
  have h := k H locs la hP hS hl
  rwa [show vI (x * y) = Value.int (iI x * iI y) from congrArg Value.int (Int32.ofInt_mul x y)] at h
theorem a_ladd (a : AM p l e s m args meth c own Ts cc nL D X ad) {x y : Int} (hdg : decode cc pc = .ok (.ladd, 1))
    (k : GG p l e R s m args below meth c cells slots Q D X ad nL (pc + 1) ls (vJ (x + y) :: st) σ) : GG p l e R s m args below meth c cells slots Q D X ad nL pc ls (vJ y :: vJ x :: st) σ := by
  intro H locs la hP hS hl
  refine lv_ladd a.1.1 a.1.2.1 hdg ?_
  have h := k H locs la hP hS hl
  rwa [show vJ (x + y) = Value.long (iJ x + iJ y) from congrArg Value.long (Int64.ofInt_add x y)] at h
theorem a_lmul (a : AM p l e s m args meth c own Ts cc nL D X ad) {x y : Int} (hdg : decode cc pc = .ok (.lmul, 1))
    (k : GG p l e R s m args below meth c cells slots Q D X ad nL (pc + 1) ls (vJ (x * y) :: st) σ) : GG p l e R s m args below meth c cells slots Q D X ad nL pc ls (vJ y :: vJ x :: st) σ := by
  intro H locs la hP hS hl
  refine lv_lmul a.1.1 a.1.2.1 hdg ?_
  have h := k H locs la hP hS hl
  rwa [show vJ (x * y) = Value.long (iJ x * iJ y) from congrArg Value.long (Int64.ofInt_mul x y)] at h
theorem a_idiv (a : AM p l e s m args meth c own Ts cc nL D X ad) {x y : Int} (hdg : decode cc pc = .ok (.idiv, 1)) (hx : 0 ≤ x ∧ x ≤ 2147483647) (hy : 0 < y ∧ y ≤ 2147483647)
    (k : GG p l e R s m args below meth c cells slots Q D X ad nL (pc + 1) ls (vI (x / y) :: st) σ) : GG p l e R s m args below meth c cells slots Q D X ad nL pc ls (vI y :: vI x :: st) σ := by
  intro H locs la hP hS hl
  have hne : ¬ iI y = 0 := by rw [iI_0, iI_eq ⟨by omega, by omega⟩ ⟨by omega, by omega⟩]; omega
  refine lv_idiv a.1.1 a.1.2.1 hdg hne ?_
  have h := k H locs la hP hS hl
  rwa [show vI (x / y) = Value.int (iI x / iI y) by
    refine congrArg Value.int ?_
    rw [← Int.tdiv_eq_ediv_of_nonneg hx.1]
    exact Int32.ofInt_tdiv (by have : Int32.minValue.toInt = -2147483648 := by decide
                               omega) (by have : Int32.maxValue.toInt = 2147483647 := by decide
                                          omega) (by have : Int32.minValue.toInt = -2147483648 := by decide
                                                     omega) (by have : Int32.maxValue.toInt = 2147483647 := by decide
                                                                omega)] at h
theorem a_irem (a : AM p l e s m args meth c own Ts cc nL D X ad) {x y : Int} (hdg : decode cc pc = .ok (.irem, 1)) (hx : 0 ≤ x ∧ x ≤ 2147483647) (hy : 0 < y ∧ y ≤ 2147483647)
    (k : GG p l e R s m args below meth c cells slots Q D X ad nL (pc + 1) ls (vI (x % y) :: st) σ) : GG p l e R s m args below meth c cells slots Q D X ad nL pc ls (vI y :: vI x :: st) σ := by
  intro H locs la hP hS hl
  have hne : ¬ iI y = 0 := by rw [iI_0, iI_eq ⟨by omega, by omega⟩ ⟨by omega, by omega⟩]; omega
  refine lv_irem a.1.1 a.1.2.1 hdg hne ?_
  have h := k H locs la hP hS hl
  have hd : iI (x / y) = iI x / iI y := by
    rw [← Int.tdiv_eq_ediv_of_nonneg hx.1]
    exact Int32.ofInt_tdiv (by have : Int32.minValue.toInt = -2147483648 := by decide
                               omega) (by have : Int32.maxValue.toInt = 2147483647 := by decide
                                          omega) (by have : Int32.minValue.toInt = -2147483648 := by decide
                                                     omega) (by have : Int32.maxValue.toInt = 2147483647 := by decide
                                                                omega)
  have e : iI (x % y) = iI x - iI x / iI y * iI y := by
    rw [← hd]
    have : x % y = x - x / y * y := by rw [Int.mul_comm]; have := Int.emod_add_mul_ediv x y; omega
    rw [this]
    show Int32.ofInt _ = _
    rw [Int32.ofInt_sub, Int32.ofInt_mul]
    rfl
  rwa [show vI (x % y) = Value.int (iI x - iI x / iI y * iI y) from congrArg Value.int e] at h
theorem a_i2l (a : AM p l e s m args meth c own Ts cc nL D X ad) {x : Int} (hx : Rg x) (hdg : decode cc pc = .ok (.i2l, 1))
    (k : GG p l e R s m args below meth c cells slots Q D X ad nL (pc + 1) ls (vJ x :: st) σ) : GG p l e R s m args below meth c cells slots Q D X ad nL pc ls (vI x :: st) σ := by
  intro H locs la hP hS hl
  refine lv_i2l a.1.1 a.1.2.1 hdg ?_ (k H locs la hP hS hl)
  rw [← Int64.toInt_inj, Int32.toInt_toInt64, iI_toInt hx]
  exact (Int64.toInt_ofInt_of_le (by omega) (by omega)).symm
theorem a_dup (a : AM p l e s m args meth c own Ts cc nL D X ad) {v : Value} (hv : v.category = 1) (hdg : decode cc pc = .ok (.dup, 1))
    (k : GG p l e R s m args below meth c cells slots Q D X ad nL (pc + 1) ls (v :: v :: st) σ) : GG p l e R s m args below meth c cells slots Q D X ad nL pc ls (v :: st) σ := by
  intro H locs la hP hS hl
  exact lv_dup a.1.1 a.1.2.1 hdg hv (k H locs la hP hS hl)
theorem a_dup2 (a : AM p l e s m args meth c own Ts cc nL D X ad) {v v1 : Value} (hv : v.category = 1) (hv1 : v1.category = 1) (hdg : decode cc pc = .ok (.dup2, 1))
    (k : GG p l e R s m args below meth c cells slots Q D X ad nL (pc + 1) ls (v :: v1 :: v :: v1 :: st) σ) : GG p l e R s m args below meth c cells slots Q D X ad nL pc ls (v :: v1 :: st) σ := by
  intro H locs la hP hS hl
  exact lv_dup2_11 a.1.1 a.1.2.1 hdg hv hv1 (k H locs la hP hS hl)
theorem a_icmp_eq (a : AM p l e s m args meth c own Ts cc nL D X ad) {x y : Int} {off : Int} {tgt : Nat} (hx : Rg x) (hy : Rg y) (hdg : decode cc pc = .ok (.if_icmp .eq off, 3)) (ht : (pc : Int) + off = (tgt : Int))
    (kt : x = y → GG p l e R s m args below meth c cells slots Q D X ad nL tgt ls st σ) (kf : ¬ x = y → GG p l e R s m args below meth c cells slots Q D X ad nL (pc + 3) ls st σ) : GG p l e R s m args below meth c cells slots Q D X ad nL pc ls (vI y :: vI x :: st) σ := by
  intro H locs la hP hS hl
  refine lv_icmp_eq a.1.1 a.1.2.1 hdg ht (fun z => kt ?_ H locs la hP hS hl) (fun z => kf (fun q => z ?_) H locs la hP hS hl)
  · exact (iI_eq hx hy).mp z
  · exact (iI_eq hx hy).mpr q
theorem a_if_eq (a : AM p l e s m args meth c own Ts cc nL D X ad) {x : Int} {off : Int} {tgt : Nat} (hx : Rg x) (hdg : decode cc pc = .ok (.ifCond .eq off, 3)) (ht : (pc : Int) + off = (tgt : Int))
    (kt : x = 0 → GG p l e R s m args below meth c cells slots Q D X ad nL tgt ls st σ) (kf : ¬ x = 0 → GG p l e R s m args below meth c cells slots Q D X ad nL (pc + 3) ls st σ) : GG p l e R s m args below meth c cells slots Q D X ad nL pc ls (vI x :: st) σ := by
  intro H locs la hP hS hl
  refine lv_if_eq a.1.1 a.1.2.1 hdg ht (fun z => kt ?_ H locs la hP hS hl) (fun z => kf (fun q => z ?_) H locs la hP hS hl)
  · rw [iI_0] at z; exact (iI_eq hx ⟨by decide, by decide⟩).mp z
  · rw [iI_0]; exact (iI_eq hx ⟨by decide, by decide⟩).mpr q
theorem a_icmp_ne (a : AM p l e s m args meth c own Ts cc nL D X ad) {x y : Int} {off : Int} {tgt : Nat} (hx : Rg x) (hy : Rg y) (hdg : decode cc pc = .ok (.if_icmp .ne off, 3)) (ht : (pc : Int) + off = (tgt : Int))
    (kt : x ≠ y → GG p l e R s m args below meth c cells slots Q D X ad nL tgt ls st σ) (kf : ¬ x ≠ y → GG p l e R s m args below meth c cells slots Q D X ad nL (pc + 3) ls st σ) : GG p l e R s m args below meth c cells slots Q D X ad nL pc ls (vI y :: vI x :: st) σ := by
  intro H locs la hP hS hl
  refine lv_icmp_ne a.1.1 a.1.2.1 hdg ht (fun z => kt (fun q => z ?_) H locs la hP hS hl) (fun z => kf (fun q => q ?_) H locs la hP hS hl)
  · exact (iI_eq hx hy).mpr q
  · exact (iI_eq hx hy).mp z
theorem a_if_ne (a : AM p l e s m args meth c own Ts cc nL D X ad) {x : Int} {off : Int} {tgt : Nat} (hx : Rg x) (hdg : decode cc pc = .ok (.ifCond .ne off, 3)) (ht : (pc : Int) + off = (tgt : Int))
    (kt : x ≠ 0 → GG p l e R s m args below meth c cells slots Q D X ad nL tgt ls st σ) (kf : ¬ x ≠ 0 → GG p l e R s m args below meth c cells slots Q D X ad nL (pc + 3) ls st σ) : GG p l e R s m args below meth c cells slots Q D X ad nL pc ls (vI x :: st) σ := by
  intro H locs la hP hS hl
  refine lv_if_ne a.1.1 a.1.2.1 hdg ht (fun z => kt (fun q => z ?_) H locs la hP hS hl) (fun z => kf (fun q => q ?_) H locs la hP hS hl)
  · rw [iI_0]; exact (iI_eq hx ⟨by decide, by decide⟩).mpr q
  · rw [iI_0] at z; exact (iI_eq hx ⟨by decide, by decide⟩).mp z
theorem a_icmp_lt (a : AM p l e s m args meth c own Ts cc nL D X ad) {x y : Int} {off : Int} {tgt : Nat} (hx : Rg x) (hy : Rg y) (hdg : decode cc pc = .ok (.if_icmp .lt off, 3)) (ht : (pc : Int) + off = (tgt : Int))
    (kt : x < y → GG p l e R s m args below meth c cells slots Q D X ad nL tgt ls st σ) (kf : ¬ x < y → GG p l e R s m args below meth c cells slots Q D X ad nL (pc + 3) ls st σ) : GG p l e R s m args below meth c cells slots Q D X ad nL pc ls (vI y :: vI x :: st) σ := by
  intro H locs la hP hS hl
  refine lv_icmp_lt a.1.1 a.1.2.1 hdg ht (fun z => kt ?_ H locs la hP hS hl) (fun z => kf (fun q => z ?_) H locs la hP hS hl)
  · exact (iI_lt hx hy).mp z
  · exact (iI_lt hx hy).mpr q
theorem a_if_lt (a : AM p l e s m args meth c own Ts cc nL D X ad) {x : Int} {off : Int} {tgt : Nat} (hx : Rg x) (hdg : decode cc pc = .ok (.ifCond .lt off, 3)) (ht : (pc : Int) + off = (tgt : Int))
    (kt : x < 0 → GG p l e R s m args below meth c cells slots Q D X ad nL tgt ls st σ) (kf : ¬ x < 0 → GG p l e R s m args below meth c cells slots Q D X ad nL (pc + 3) ls st σ) : GG p l e R s m args below meth c cells slots Q D X ad nL pc ls (vI x :: st) σ := by
  intro H locs la hP hS hl
  refine lv_if_lt a.1.1 a.1.2.1 hdg ht (fun z => kt ?_ H locs la hP hS hl) (fun z => kf (fun q => z ?_) H locs la hP hS hl)
  · rw [iI_0] at z; exact (iI_lt hx ⟨by decide, by decide⟩).mp z
  · rw [iI_0]; exact (iI_lt hx ⟨by decide, by decide⟩).mpr q
theorem a_icmp_ge (a : AM p l e s m args meth c own Ts cc nL D X ad) {x y : Int} {off : Int} {tgt : Nat} (hx : Rg x) (hy : Rg y) (hdg : decode cc pc = .ok (.if_icmp .ge off, 3)) (ht : (pc : Int) + off = (tgt : Int))
    (kt : x ≥ y → GG p l e R s m args below meth c cells slots Q D X ad nL tgt ls st σ) (kf : ¬ x ≥ y → GG p l e R s m args below meth c cells slots Q D X ad nL (pc + 3) ls st σ) : GG p l e R s m args below meth c cells slots Q D X ad nL pc ls (vI y :: vI x :: st) σ := by
  intro H locs la hP hS hl
  refine lv_icmp_ge a.1.1 a.1.2.1 hdg ht (fun z => kt ?_ H locs la hP hS hl) (fun z => kf (fun q => z ?_) H locs la hP hS hl)
  · exact (iI_le hy hx).mp z
  · exact (iI_le hy hx).mpr q
theorem a_if_ge (a : AM p l e s m args meth c own Ts cc nL D X ad) {x : Int} {off : Int} {tgt : Nat} (hx : Rg x) (hdg : decode cc pc = .ok (.ifCond .ge off, 3)) (ht : (pc : Int) + off = (tgt : Int))
    (kt : x ≥ 0 → GG p l e R s m args below meth c cells slots Q D X ad nL tgt ls st σ) (kf : ¬ x ≥ 0 → GG p l e R s m args below meth c cells slots Q D X ad nL (pc + 3) ls st σ) : GG p l e R s m args below meth c cells slots Q D X ad nL pc ls (vI x :: st) σ := by
  intro H locs la hP hS hl
  refine lv_if_ge a.1.1 a.1.2.1 hdg ht (fun z => kt ?_ H locs la hP hS hl) (fun z => kf (fun q => z ?_) H locs la hP hS hl)
  · rw [iI_0] at z; exact (iI_le ⟨by decide, by decide⟩ hx).mp z
  · rw [iI_0]; exact (iI_le ⟨by decide, by decide⟩ hx).mpr q
theorem a_icmp_gt (a : AM p l e s m args meth c own Ts cc nL D X ad) {x y : Int} {off : Int} {tgt : Nat} (hx : Rg x) (hy : Rg y) (hdg : decode cc pc = .ok (.if_icmp .gt off, 3)) (ht : (pc : Int) + off = (tgt : Int))
    (kt : x > y → GG p l e R s m args below meth c cells slots Q D X ad nL tgt ls st σ) (kf : ¬ x > y → GG p l e R s m args below meth c cells slots Q D X ad nL (pc + 3) ls st σ) : GG p l e R s m args below meth c cells slots Q D X ad nL pc ls (vI y :: vI x :: st) σ := by
  intro H locs la hP hS hl
  refine lv_icmp_gt a.1.1 a.1.2.1 hdg ht (fun z => kt ?_ H locs la hP hS hl) (fun z => kf (fun q => z ?_) H locs la hP hS hl)
  · exact (iI_lt hy hx).mp z
  · exact (iI_lt hy hx).mpr q
theorem a_if_gt (a : AM p l e s m args meth c own Ts cc nL D X ad) {x : Int} {off : Int} {tgt : Nat} (hx : Rg x) (hdg : decode cc pc = .ok (.ifCond .gt off, 3)) (ht : (pc : Int) + off = (tgt : Int))
    (kt : x > 0 → GG p l e R s m args below meth c cells slots Q D X ad nL tgt ls st σ) (kf : ¬ x > 0 → GG p l e R s m args below meth c cells slots Q D X ad nL (pc + 3) ls st σ) : GG p l e R s m args below meth c cells slots Q D X ad nL pc ls (vI x :: st) σ := by
  intro H locs la hP hS hl
  refine lv_if_gt a.1.1 a.1.2.1 hdg ht (fun z => kt ?_ H locs la hP hS hl) (fun z => kf (fun q => z ?_) H locs la hP hS hl)
  · rw [iI_0] at z; exact (iI_lt ⟨by decide, by decide⟩ hx).mp z
  · rw [iI_0]; exact (iI_lt ⟨by decide, by decide⟩ hx).mpr q
theorem a_icmp_le (a : AM p l e s m args meth c own Ts cc nL D X ad) {x y : Int} {off : Int} {tgt : Nat} (hx : Rg x) (hy : Rg y) (hdg : decode cc pc = .ok (.if_icmp .le off, 3)) (ht : (pc : Int) + off = (tgt : Int))
    (kt : x ≤ y → GG p l e R s m args below meth c cells slots Q D X ad nL tgt ls st σ) (kf : ¬ x ≤ y → GG p l e R s m args below meth c cells slots Q D X ad nL (pc + 3) ls st σ) : GG p l e R s m args below meth c cells slots Q D X ad nL pc ls (vI y :: vI x :: st) σ := by
  intro H locs la hP hS hl
  refine lv_icmp_le a.1.1 a.1.2.1 hdg ht (fun z => kt ?_ H locs la hP hS hl) (fun z => kf (fun q => z ?_) H locs la hP hS hl)
  · exact (iI_le hx hy).mp z
  · exact (iI_le hx hy).mpr q
theorem a_if_le (a : AM p l e s m args meth c own Ts cc nL D X ad) {x : Int} {off : Int} {tgt : Nat} (hx : Rg x) (hdg : decode cc pc = .ok (.ifCond .le off, 3)) (ht : (pc : Int) + off = (tgt : Int))
    (kt : x ≤ 0 → GG p l e R s m args below meth c cells slots Q D X ad nL tgt ls st σ) (kf : ¬ x ≤ 0 → GG p l e R s m args below meth c cells slots Q D X ad nL (pc + 3) ls st σ) : GG p l e R s m args below meth c cells slots Q D X ad nL pc ls (vI x :: st) σ := by
  intro H locs la hP hS hl
  refine lv_if_le a.1.1 a.1.2.1 hdg ht (fun z => kt ?_ H locs la hP hS hl) (fun z => kf (fun q => z ?_) H locs la hP hS hl)
  · rw [iI_0] at z; exact (iI_le hx ⟨by decide, by decide⟩).mp z
  · rw [iI_0]; exact (iI_le hx ⟨by decide, by decide⟩).mpr q
theorem a_goto (a : AM p l e s m args meth c own Ts cc nL D X ad) {off : Int} {tgt : Nat} (hdg : decode cc pc = .ok (.goto off, 3)) (ht : (pc : Int) + off = (tgt : Int))
    (k : GG p l e R s m args below meth c cells slots Q D X ad nL (tgt) ls (st) σ) : GG p l e R s m args below meth c cells slots Q D X ad nL pc ls (st) σ := by
  intro H locs la hP hS hl
  exact lv_goto a.1.1 a.1.2.1 hdg ht (k H locs la hP hS hl)
theorem a_tsIn (a : AM p l e s m args meth c own Ts cc nL D X ad) {x dflt lo hi off : Int} {offs : Array Int} {len tgt : Nat} (n : Int) (hx : x = n) (hn : Rg n) (hdg : decode cc pc = .ok (.tableswitch dflt lo hi offs, len)) (h1 : ¬ n < lo) (h2 : ¬ hi < n) (ho : offs[(n - lo).toNat]? = some off) (ht : (pc : Int) + off = (tgt : Int))
    (k : GG p l e R s m args below meth c cells slots Q D X ad nL (tgt) ls (st) σ) : GG p l e R s m args below meth c cells slots Q D X ad nL pc ls (vI x :: st) σ := by
  intro H locs la hP hS hl
  subst hx
  exact lv_tableIn a.1.1 a.1.2.1 hdg (by rw [iI_toInt hn]; exact h1) (by rw [iI_toInt hn]; exact h2) (by rw [iI_toInt hn]; exact ho) ht (k H locs la hP hS hl)
theorem a_tsOut (a : AM p l e s m args meth c own Ts cc nL D X ad) {x dflt lo hi : Int} {offs : Array Int} {len tgt : Nat} (hx : Rg x) (hdg : decode cc pc = .ok (.tableswitch dflt lo hi offs, len)) (h1 : x < lo ∨ hi < x) (ht : (pc : Int) + dflt = (tgt : Int))
    (k : GG p l e R s m args below meth c cells slots Q D X ad nL (tgt) ls (st) σ) : GG p l e R s m args below meth c cells slots Q D X ad nL pc ls (vI x :: st) σ := by
  intro H locs la hP hS hl
  exact lv_tableOut a.1.1 a.1.2.1 hdg (by rw [iI_toInt hx]; exact h1) ht (k H locs la hP hS hl)
theorem a_lsw (a : AM p l e s m args meth c own Ts cc nL D X ad) {x dflt off : Int} {ps : Array (Int × Int)} {len tgt : Nat} (hx : Rg x) (hdg : decode cc pc = .ok (.lookupswitch dflt ps, len)) (hp : (ps.toList.zip (ps.toList.drop 1)).all (fun (a, next) => a.1 < next.1) = true) (ho : Op.lookupswitch.offset ps.toList dflt x = off) (ht : (pc : Int) + off = (tgt : Int))
    (k : GG p l e R s m args below meth c cells slots Q D X ad nL (tgt) ls (st) σ) : GG p l e R s m args below meth c cells slots Q D X ad nL pc ls (vI x :: st) σ := by
  intro H locs la hP hS hl
  exact lv_lookup a.1.1 a.1.2.1 hdg hp (by rw [iI_toInt hx]; exact ho) ht (k H locs la hP hS hl)
theorem a_ifnull (a : AM p l e s m args meth c own Ts cc nL D X ad) {q : Nat} {off : Int} (hdg : decode cc pc = .ok (.ifnull off, 3))
    (k : GG p l e R s m args below meth c cells slots Q D X ad nL (pc + 3) ls (st) σ) : GG p l e R s m args below meth c cells slots Q D X ad nL pc ls (Value.ref q :: st) σ := by
  intro H locs la hP hS hl
  exact lv_ifnull a.1.1 a.1.2.1 hdg (k H locs la hP hS hl)
theorem a_getI (a : AM p l e s m args meth c own Ts cc nL D X ad) {ix b : Nat} {ci : Nat} (j : Nat) (ji : Int) (hji : (j : Int) = ji) {C : String} {T : u_T} {N : Nat} (hb : tyc b (ci + 4, 0)) (hc : vwCl[ci]? = some (C, T, N)) (hin : ∀ w ∈ u_ws C T N, w ∈ Ts) (hlink : (Cond.fieldLink own ix (T j).1 (T j).2.1 (T j).2.2.1).before args s = true) (hj : j < N) (hjn : j < nfl ci)  (hf : fty ci j = 0) (hdg : decode cc pc = .ok (.getfield ix, 3))
    (k : GG p l e R s m args below meth c cells slots Q D X ad nL (pc + 3) ls (vI (σ b ji) :: st) σ) : GG p l e R s m args below meth c cells slots Q D X ad nL pc ls (Value.ref (ad b) :: st) σ := by
  intro H locs la hP hS hl
  subst hji
  have hb := tw a.2.2.1 hb
  refine va_get a.1.1 a.1.2.1 a.1.2.2.2.2 hin a.1.2.2.2.1 a.2.1 hP b (by rw [ws_get hb.1, celO hb.2]) hc j hj hlink (fun x h => h) (v := vI (σ b (j : Int))) ?_ hdg (k H locs la hP hS hl)
  rw [fv_get hjn]
  simp only [fval, hf]
theorem a_getJ (a : AM p l e s m args meth c own Ts cc nL D X ad) {ix b : Nat} {ci : Nat} (j : Nat) (ji : Int) (hji : (j : Int) = ji) {C : String} {T : u_T} {N : Nat} (hb : tyc b (ci + 4, 0)) (hc : vwCl[ci]? = some (C, T, N)) (hin : ∀ w ∈ u_ws C T N, w ∈ Ts) (hlink : (Cond.fieldLink own ix (T j).1 (T j).2.1 (T j).2.2.1).before args s = true) (hj : j < N) (hjn : j < nfl ci)  (hf : fty ci j = 1) (hdg : decode cc pc = .ok (.getfield ix, 3))
    (k : GG p l e R s m args below meth c cells slots Q D X ad nL (pc + 3) ls (vJ (σ b ji) :: st) σ) : GG p l e R s m args below meth c cells slots Q D X ad nL pc ls (Value.ref (ad b) :: st) σ := by
  intro H locs la hP hS hl
  subst hji
  have hb := tw a.2.2.1 hb
  refine va_get a.1.1 a.1.2.1 a.1.2.2.2.2 hin a.1.2.2.2.1 a.2.1 hP b (by rw [ws_get hb.1, celO hb.2]) hc j hj hlink (fun x h => h) (v := vJ (σ b (j : Int))) ?_ hdg (k H locs la hP hS hl)
  rw [fv_get hjn]
  simp only [fval, hf]
theorem a_getR (a : AM p l e s m args meth c own Ts cc nL D X ad) {ix b : Nat} {ci : Nat} (j : Nat) (ji : Int) (hji : (j : Int) = ji) {C : String} {T : u_T} {N : Nat} (hb : tyc b (ci + 4, 0)) (hc : vwCl[ci]? = some (C, T, N)) (hin : ∀ w ∈ u_ws C T N, w ∈ Ts) (hlink : (Cond.fieldLink own ix (T j).1 (T j).2.1 (T j).2.2.1).before args s = true) (hj : j < N) (hjn : j < nfl ci) (d : Nat) {q : Nat} (hq : b + d = q) (hf : fty ci j = d + 2) (hdg : decode cc pc = .ok (.getfield ix, 3))
    (k : GG p l e R s m args below meth c cells slots Q D X ad nL (pc + 3) ls (Value.ref (ad q) :: st) σ) : GG p l e R s m args below meth c cells slots Q D X ad nL pc ls (Value.ref (ad b) :: st) σ := by
  intro H locs la hP hS hl
  subst hji
  subst hq
  have hb := tw a.2.2.1 hb
  refine va_get a.1.1 a.1.2.1 a.1.2.2.2.2 hin a.1.2.2.2.1 a.2.1 hP b (by rw [ws_get hb.1, celO hb.2]) hc j hj hlink (fun x h => h) (v := Value.ref (ad (b + d))) ?_ hdg (k H locs la hP hS hl)
  rw [fv_get hjn]
  simp only [fval, hf]
theorem a_putI (a : AM p l e s m args meth c own Ts cc nL D X ad) {ix b : Nat} {ci : Nat} (j : Nat) (ji : Int) (hji : (j : Int) = ji) {C : String} {T : u_T} {N : Nat} (hb : tyc b (ci + 4, 0)) (hc : vwCl[ci]? = some (C, T, N)) (hin : ∀ w ∈ u_ws C T N, w ∈ Ts) (hlink : (Cond.fieldLink own ix (T j).1 (T j).2.1 (T j).2.2.1).before args s = true) (hj : j < N) (hjn : j < nfl ci) (ty0 : Nat → FieldType) (hty : ∀ k, k < N → parseFieldDescriptor (T k).2.2.1 = some (ty0 k)) (hnm : ∀ a, a < N → ∀ b, b < N → a ≠ b → (T a).2.1 ≠ (T b).2.1) {x : Int}  (hf : fty ci j = 0) (hfin : (T j).2.2.2 = false) (hd : parseFieldDescriptor (T j).2.2.1 = some .int) (hdg : decode cc pc = .ok (.putfield ix, 3))
    (k : GG p l e R s m args below meth c cells slots Q D X ad nL (pc + 3) ls (st) (up2 σ b ji x)) : GG p l e R s m args below meth c cells slots Q D X ad nL pc ls (vI x :: Value.ref (ad b) :: st) σ := by
  intro H locs la hP hS hl
  subst hji
  have hD := ws_D (X := X) (σ := σ) (sz := s.heap.size) a.2.2.1
  have hb := tw a.2.2.1 hb
  refine va_put a.1.1 a.1.2.1 a.1.2.2.2.2 hin ty0 hty hnm a.1.2.2.2.1 a.2.1 hP hD hS b (by rw [ws_get hb.1, celO hb.2]) hc j hj hlink (fun x h => h) hfin hd rfl rfl (by simp [hjn]) hdg (fun H1 locs1 hP1 _ hS1 => ?_)
  refine k H1 locs1 la ?_ hS1 hl
  rwa [ws_put (σ1 := up2 σ b j x) hb.1 up2_ne] at hP1
  rw [celO hb.2, fv_set (g := up2 σ b j x b) hjn (fun i hi => by simp [up2, hi]) (by simp only [fval, hf, up2]; simp)]
theorem a_putZ (a : AM p l e s m args meth c own Ts cc nL D X ad) {ix b : Nat} {ci : Nat} (j : Nat) (ji : Int) (hji : (j : Int) = ji) {C : String} {T : u_T} {N : Nat} (hb : tyc b (ci + 4, 0)) (hc : vwCl[ci]? = some (C, T, N)) (hin : ∀ w ∈ u_ws C T N, w ∈ Ts) (hlink : (Cond.fieldLink own ix (T j).1 (T j).2.1 (T j).2.2.1).before args s = true) (hj : j < N) (hjn : j < nfl ci) (ty0 : Nat → FieldType) (hty : ∀ k, k < N → parseFieldDescriptor (T k).2.2.1 = some (ty0 k)) (hnm : ∀ a, a < N → ∀ b, b < N → a ≠ b → (T a).2.1 ≠ (T b).2.1) {x : Int} (hbl : Bl x) (hf : fty ci j = 0) (hfin : (T j).2.2.2 = false) (hd : parseFieldDescriptor (T j).2.2.1 = some .boolean) (hdg : decode cc pc = .ok (.putfield ix, 3))
    (k : GG p l e R s m args below meth c cells slots Q D X ad nL (pc + 3) ls (st) (up2 σ b ji x)) : GG p l e R s m args below meth c cells slots Q D X ad nL pc ls (vI x :: Value.ref (ad b) :: st) σ := by
  intro H locs la hP hS hl
  subst hji
  have hD := ws_D (X := X) (σ := σ) (sz := s.heap.size) a.2.2.1
  have hb := tw a.2.2.1 hb
  refine va_put a.1.1 a.1.2.1 a.1.2.2.2.2 hin ty0 hty hnm a.1.2.2.2.1 a.2.1 hP hD hS b (by rw [ws_get hb.1, celO hb.2]) hc j hj hlink (fun x h => h) hfin hd (bl_nar hbl) (bl_fit hbl) (by simp [hjn]) hdg (fun H1 locs1 hP1 _ hS1 => ?_)
  refine k H1 locs1 la ?_ hS1 hl
  rwa [ws_put (σ1 := up2 σ b j x) hb.1 up2_ne] at hP1
  rw [celO hb.2, fv_set (g := up2 σ b j x b) hjn (fun i hi => by simp [up2, hi]) (by simp only [fval, hf, up2]; simp)]
theorem a_putJ (a : AM p l e s m args meth c own Ts cc nL D X ad) {ix b : Nat} {ci : Nat} (j : Nat) (ji : Int) (hji : (j : Int) = ji) {C : String} {T : u_T} {N : Nat} (hb : tyc b (ci + 4, 0)) (hc : vwCl[ci]? = some (C, T, N)) (hin : ∀ w ∈ u_ws C T N, w ∈ Ts) (hlink : (Cond.fieldLink own ix (T j).1 (T j).2.1 (T j).2.2.1).before args s = true) (hj : j < N) (hjn : j < nfl ci) (ty0 : Nat → FieldType) (hty : ∀ k, k < N → parseFieldDescriptor (T k).2.2.1 = some (ty0 k)) (hnm : ∀ a, a < N → ∀ b, b < N → a ≠ b → (T a).2.1 ≠ (T b).2.1) {x : Int}  (hf : fty ci j = 1) (hfin : (T j).2.2.2 = false) (hd : parseFieldDescriptor (T j).2.2.1 = some .long) (hdg : decode cc pc = .ok (.putfield ix, 3))
    (k : GG p l e R s m args below meth c cells slots Q D X ad nL (pc + 3) ls (st) (up2 σ b ji x)) : GG p l e R s m args below meth c cells slots Q D X ad nL pc ls (vJ x :: Value.ref (ad b) :: st) σ := by
  intro H locs la hP hS hl
  subst hji
  have hD := ws_D (X := X) (σ := σ) (sz := s.heap.size) a.2.2.1
  have hb := tw a.2.2.1 hb
  refine va_put a.1.1 a.1.2.1 a.1.2.2.2.2 hin ty0 hty hnm a.1.2.2.2.1 a.2.1 hP hD hS b (by rw [ws_get hb.1, celO hb.2]) hc j hj hlink (fun x h => h) hfin hd rfl rfl (by simp [hjn]) hdg (fun H1 locs1 hP1 _ hS1 => ?_)
  refine k H1 locs1 la ?_ hS1 hl
  rwa [ws_put (σ1 := up2 σ b j x) hb.1 up2_ne] at hP1
  rw [celO hb.2, fv_set (g := up2 σ b j x b) hjn (fun i hi => by simp [up2, hi]) (by simp only [fval, hf, up2]; simp)]
theorem a_iald (a : AM p l e s m args meth c own Ts cc nL D X ad) {b n : Nat} {i : Int} (hb : tyw ad b (0, n)) (hnn : n < 2147483648) (hi : 0 ≤ i ∧ i < n) (hdg : decode cc pc = .ok (.iaload, 1))
    (k : GG p l e R s m args below meth c cells slots Q D X ad nL (pc + 1) ls (vI (σ b i) :: st) σ) : GG p l e R s m args below meth c cells slots Q D X ad nL pc ls (vI i :: Value.ref (ad b) :: st) σ := by
  intro H locs la hP hS hl
  obtain ⟨hi1, hi2⟩ := iI_in hi hnn
  refine va_iald a.1.1 a.1.2.1 a.2.1 hP b 0 (by rw [ws_get hb.1, cel0 hb.2]) rfl hi1 hdg ?_
  rw [hi2]
  have e : ((i.toNat : Nat) : Int) = i := by omega
  simp only [e]
  exact k H locs la hP hS hl
theorem a_zald (a : AM p l e s m args meth c own Ts cc nL D X ad) {b n : Nat} {i : Int} (hb : tyw ad b (1, n)) (hnn : n < 2147483648) (hi : 0 ≤ i ∧ i < n) (hdg : decode cc pc = .ok (.baload, 1))
    (k : GG p l e R s m args below meth c cells slots Q D X ad nL (pc + 1) ls (vI (σ b i) :: st) σ) : GG p l e R s m args below meth c cells slots Q D X ad nL pc ls (vI i :: Value.ref (ad b) :: st) σ := by
  intro H locs la hP hS hl
  obtain ⟨hi1, hi2⟩ := iI_in hi hnn
  refine va_zald a.1.1 a.1.2.1 a.2.1 hP b 1 (by rw [ws_get hb.1, cel1 hb.2]) rfl hi1 hdg ?_
  rw [hi2]
  have e : ((i.toNat : Nat) : Int) = i := by omega
  simp only [e]
  exact k H locs la hP hS hl
theorem a_iast (a : AM p l e s m args meth c own Ts cc nL D X ad) {b n : Nat} {i x : Int} (hb : tyw ad b (0, n)) (hnn : n < 2147483648) (hi : 0 ≤ i ∧ i < n)  (hdg : decode cc pc = .ok (.iastore, 1))
    (k : GG p l e R s m args below meth c cells slots Q D X ad nL (pc + 1) ls (st) (up2 σ b i x)) : GG p l e R s m args below meth c cells slots Q D X ad nL pc ls (vI x :: vI i :: Value.ref (ad b) :: st) σ := by
  intro H locs la hP hS hl
  have hD := ws_D (X := X) (σ := σ) (sz := s.heap.size) a.2.2.1
  obtain ⟨hi1, hi2⟩ := iI_in hi hnn
  refine va_iast a.1.1 a.1.2.1 a.2.1 hP hD hS b 0 (by rw [ws_get hb.1, cel0 hb.2]) rfl hi1 hdg (fun H1 locs1 hP1 _ hS1 => ?_)
  refine k H1 locs1 la ?_ hS1 hl
  rwa [ws_put (σ1 := up2 σ b i x) hb.1 up2_ne] at hP1
  rw [cel0 hb.2, hi2, iI_up hi.1]
  simp only [up2, true_and]
theorem a_zast (a : AM p l e s m args meth c own Ts cc nL D X ad) {b n : Nat} {i x : Int} (hb : tyw ad b (1, n)) (hnn : n < 2147483648) (hi : 0 ≤ i ∧ i < n) (hbl : Bl x) (hdg : decode cc pc = .ok (.bastore, 1))
    (k : GG p l e R s m args below meth c cells slots Q D X ad nL (pc + 1) ls (st) (up2 σ b i x)) : GG p l e R s m args below meth c cells slots Q D X ad nL pc ls (vI x :: vI i :: Value.ref (ad b) :: st) σ := by
  intro H locs la hP hS hl
  have hD := ws_D (X := X) (σ := σ) (sz := s.heap.size) a.2.2.1
  obtain ⟨hi1, hi2⟩ := iI_in hi hnn
  refine va_zast a.1.1 a.1.2.1 a.2.1 hP hD hS b 1 (by rw [ws_get hb.1, cel1 hb.2]) rfl hi1 hdg (fun H1 locs1 hP1 _ hS1 => ?_)
  refine k H1 locs1 la ?_ hS1 hl
  rwa [ws_put (σ1 := up2 σ b i x) hb.1 up2_ne] at hP1
  rw [cel1 hb.2, hi2, bl_vp hbl, iI_up hi.1]
  simp only [up2, true_and]
theorem a_aald (a : AM p l e s m args meth c own Ts cc nL D X ad) {b n : Nat} {i : Int} (hb : tyc b (2, n)) (hi : 0 ≤ i ∧ i < 4) (hdg : decode cc pc = .ok (.aaload, 1))
    (k : GG p l e R s m args below meth c cells slots Q D X ad nL (pc + 1) ls (Value.ref (ad (n + 13 * i.toNat)) :: st) σ) : GG p l e R s m args below meth c cells slots Q D X ad nL pc ls (vI i :: Value.ref (ad b) :: st) σ := by
  intro H locs la hP hS hl
  have hb := tw a.2.2.1 hb
  obtain ⟨hi1, hi2⟩ := iI_in (n := 4) hi (by decide)
  refine va_aldq a.1.1 a.1.2.1 a.2.1 hP b 2 (by rw [ws_get hb.1, cel2 hb.2]) rfl hi1 hdg ?_
  rw [hi2]
  exact k H locs la hP hS hl
theorem a_gets (a : AM p l e s m args meth c own Ts cc nL D X ad) {ix : Nat} (hlink : (Cond.fieldLink own ix "SightLegend" "HIGHEST_SETTING" "[I").before args s = true) {ht : Nat} (hz : va_Z "SightLegend" "HIGHEST_SETTING" "[I" (.ref ht) (AA ad s.heap.size) s s.heap) (hdg : decode cc pc = .ok (.getstatic ix, 3))
    (k : GG p l e R s m args below meth c cells slots Q D X ad nL (pc + 3) ls (Value.ref ht :: st) σ) : GG p l e R s m args below meth c cells slots Q D X ad nL pc ls (st) σ := by
  intro H locs la hP hS hl
  exact va_gets a.1.1 a.1.2.1 hz hS a.1.2.2.2.1 hlink (fun x h => h) hdg (k H locs la hP hS hl)
theorem a_ti (a : AM p l e s m args meth c own Ts cc nL D X ad) {i : Int} {ht : Nat} (hz : va_T .int ht 4 hset (AA ad s.heap.size) s s.heap) (hi : 0 ≤ i ∧ i < 4) (hdg : decode cc pc = .ok (.iaload, 1))
    (k : GG p l e R s m args below meth c cells slots Q D X ad nL (pc + 1) ls (vI (hsetI i) :: st) σ) : GG p l e R s m args below meth c cells slots Q D X ad nL pc ls (vI i :: Value.ref ht :: st) σ := by
  intro H locs la hP hS hl
  obtain ⟨hi1, hi2⟩ := iI_in (n := 4) hi (by decide)
  refine va_ti a.1.1 a.1.2.1 hz hS hi1 (v := vI (hsetI i)) ?_ hdg (k H locs la hP hS hl)
  rw [hi2]
  have : i = 0 ∨ i = 1 ∨ i = 2 ∨ i = 3 := by omega
  rcases this with rfl | rfl | rfl | rfl <;> rfl
theorem a_max (a : AM p l e s m args meth c own Ts cc nL D X ad) {ix : Nat} {x y : Int} (hx : Rg x) (hy : Rg y) (h1 : (Cond.methodLink own ix Lib.Math.max.name).before args s = true) (h2 : (Cond.static Lib.Math.max.name).before args s = true) (h3 : (Cond.initialized "java/lang/Math").before args s = true) (h4 : (Cond.code Lib.Math.max.name Lib.Math.max.code 2 (some .int)).before args s = true) (hfr : 1 ≤ R.frames) (hlo : (st.map fun v => v.category).sum + 13 ≤ R.locals) (hce : cells ≤ R.cells) (hsl : slots ≤ R.slots) (hdg : decode cc pc = .ok (.invokestatic ix, 3))
    (k : GG p l e R s m args below meth c cells slots Q D X ad nL (pc + 3) ls (vI (if x < y then y else x) :: st) σ) : GG p l e R s m args below meth c cells slots Q D X ad nL pc ls (vI y :: vI x :: st) σ := by
  intro H locs la hP hS hl
  refine va_mmax a.1.1 a.1.2.1 (by rw [a.1.2.2.1, hl.1]) a.1.2.2.2.1 h1 h2 h3 h4 hfr hlo hce hsl hdg ?_
  have h := k H locs la hP hS hl
  by_cases z : x < y
  · have z1 : iI x < iI y := (iI_lt hx hy).mpr z
    rw [if_pos z] at h
    rw [if_pos z1]
    exact h
  · have z1 : ¬ iI x < iI y := fun q => z ((iI_lt hx hy).mp q)
    rw [if_neg z] at h
    rw [if_neg z1]
    exact h
theorem a_min (a : AM p l e s m args meth c own Ts cc nL D X ad) {ix : Nat} {x y : Int} (hx : Rg x) (hy : Rg y) (h1 : (Cond.methodLink own ix Lib.Math.min.name).before args s = true) (h2 : (Cond.static Lib.Math.min.name).before args s = true) (h3 : (Cond.initialized "java/lang/Math").before args s = true) (h4 : (Cond.code Lib.Math.min.name Lib.Math.min.code 2 (some .int)).before args s = true) (hfr : 1 ≤ R.frames) (hlo : (st.map fun v => v.category).sum + 13 ≤ R.locals) (hce : cells ≤ R.cells) (hsl : slots ≤ R.slots) (hdg : decode cc pc = .ok (.invokestatic ix, 3))
    (k : GG p l e R s m args below meth c cells slots Q D X ad nL (pc + 3) ls (vI (if y < x then y else x) :: st) σ) : GG p l e R s m args below meth c cells slots Q D X ad nL pc ls (vI y :: vI x :: st) σ := by
  intro H locs la hP hS hl
  refine va_mmin a.1.1 a.1.2.1 (by rw [a.1.2.2.1, hl.1]) a.1.2.2.2.1 h1 h2 h3 h4 hfr hlo hce hsl hdg ?_
  have h := k H locs la hP hS hl
  by_cases z : y < x
  · have z1 : iI y < iI x := (iI_lt hy hx).mpr z
    rw [if_pos z] at h
    rw [if_pos z1]
    exact h
  · have z1 : ¬ iI y < iI x := fun q => z ((iI_lt hy hx).mp q)
    rw [if_neg z] at h
    rw [if_neg z1]
    exact h
theorem a_copy (a : AM p l e s m args meth c own Ts cc nL D X ad) {ix b0 b1 n0 n1 : Nat} {sp dp n : Int} (hb0 : tyc b0 (0, n0)) (hb1 : tyc b1 (0, n1)) (hn0 : n0 < 2147483648) (hn1 : n1 < 2147483648) (h1 : 0 ≤ sp ∧ 0 ≤ dp ∧ 0 ≤ n) (h2 : sp + n ≤ n0 ∧ dp + n ≤ n1) (k1 : (Cond.methodLink own ix arraycopyName).before args s = true) (k2 : (Cond.native arraycopyName).before args s = true) (k3 : (Cond.static arraycopyName).before args s = true) (k4 : (Cond.initialized "java/lang/System").before args s = true) (hfr : 1 ≤ R.frames) (hlo : (st.map fun v => v.category).sum + (nativeFrameWords "java/lang/System" "arraycopy" 5 + 11) ≤ R.locals) (hdg : decode cc pc = .ok (.invokestatic ix, 3))
    (k : GG p l e R s m args below meth c cells slots Q D X ad nL (pc + 3) ls (st) (cpy2 σ b0 sp b1 dp n)) : GG p l e R s m args below meth c cells slots Q D X ad nL pc ls (vI n :: vI dp :: Value.ref (ad b1) :: vI sp :: Value.ref (ad b0) :: st) σ := by
  intro H locs la hP hS hl
  have hD := ws_D (X := X) (σ := σ) (sz := s.heap.size) a.2.2.1
  have neg : ∀ z : Int, 0 ≤ z → z < 2147483648 → ¬ iI z < 0 ∧ (iI z).toNatClampNeg = z.toNat := by
    intro z hz hz2
    have hr : (iI z).toInt = z := iI_toInt ⟨by omega, by omega⟩
    refine ⟨?_, by rw [← Int32.toNat_toInt, hr]⟩
    rw [iI_0, iI_lt ⟨by omega, by omega⟩ ⟨by omega, by omega⟩]
    omega
  obtain ⟨s1, s2⟩ := neg sp h1.1 (by omega)
  obtain ⟨d1, d2⟩ := neg dp h1.2.1 (by omega)
  obtain ⟨m1, m2⟩ := neg n h1.2.2 (by omega)
  have hb0 := tw a.2.2.1 hb0
  have hb1 := tw a.2.2.1 hb1
  refine va_copyi a.1.1 a.1.2.1 (by rw [a.1.2.2.1, hl.1]) a.1.2.2.2.1 k1 k2 k3 k4 a.2.1 hP hD hS b0 b1 0 0 (ty := .int) (by rw [ws_get hb0.1, cel0 hb0.2]) (by rw [ws_get hb1.1, cel0 hb1.2]) rfl rfl rfl s1 d1 m1 (by rw [s2, m2]; omega) (by rw [d2, m2]; omega) (fun _ _ => rfl) hfr hlo hdg (fun H1 locs1 hP1 _ hS1 => ?_)
  refine k H1 locs1 la ?_ hS1 hl
  rwa [ws_put (σ1 := cpy2 σ b0 sp b1 dp n) hb1.1 (fun j hj => by funext i1; simp [cpy2, hj])] at hP1
  rw [cel0 hb1.2, s2, d2, m2]
  congr 4
  funext j
  simp only [va_cpy, cpy2, true_and]
  by_cases z : dp ≤ (j : Int) ∧ (j : Int) < dp + n
  · rw [if_pos z, if_pos (by omega)]
    congr 2
    omega
  · rw [if_neg z, if_neg (by omega)]
theorem a_ldc (a : AM p l e s m args meth c own Ts cc nL D X ad) {ix : Nat} {n : Int} (hw : (Cond.constant own ix (iI n)).before args s = true) (hdg : decode cc pc = .ok (.ldc ix, 2))
    (k : GG p l e R s m args below meth c cells slots Q D X ad nL (pc + 2) ls (vI n :: st) σ) : GG p l e R s m args below meth c cells slots Q D X ad nL pc ls (st) σ := by
  intro H locs la hP hS hl
  exact lv_ldc a.1.1 a.1.2.1 a.1.2.2.2.1 hw hdg (k H locs la hP hS hl)
theorem a_iand (a : AM p l e s m args meth c own Ts cc nL D X ad) {x y : Int} (hdg : decode cc pc = .ok (.iand, 1))
    (k : GG p l e R s m args below meth c cells slots Q D X ad nL (pc + 1) ls (vI (bA x y) :: st) σ) : GG p l e R s m args below meth c cells slots Q D X ad nL pc ls (vI y :: vI x :: st) σ := by
  intro H locs la hP hS hl
  refine lv_iand a.1.1 a.1.2.1 hdg ?_
  have h := k H locs la hP hS hl
  rwa [show vI (bA x y) = Value.int (iI (bA x y)) from rfl, show iI (bA x y) = _ from iI_back _] at h
theorem a_ior (a : AM p l e s m args meth c own Ts cc nL D X ad) {x y : Int} (hdg : decode cc pc = .ok (.ior, 1))
    (k : GG p l e R s m args below meth c cells slots Q D X ad nL (pc + 1) ls (vI (bO x y) :: st) σ) : GG p l e R s m args below meth c cells slots Q D X ad nL pc ls (vI y :: vI x :: st) σ := by
  intro H locs la hP hS hl
  refine lv_ior a.1.1 a.1.2.1 hdg ?_
  have h := k H locs la hP hS hl
  rwa [show vI (bO x y) = Value.int (iI (bO x y)) from rfl, show iI (bO x y) = _ from iI_back _] at h
theorem a_ixor (a : AM p l e s m args meth c own Ts cc nL D X ad) {x y : Int} (hdg : decode cc pc = .ok (.ixor, 1))
    (k : GG p l e R s m args below meth c cells slots Q D X ad nL (pc + 1) ls (vI (bX x y) :: st) σ) : GG p l e R s m args below meth c cells slots Q D X ad nL pc ls (vI y :: vI x :: st) σ := by
  intro H locs la hP hS hl
  refine lv_ixor a.1.1 a.1.2.1 hdg ?_
  have h := k H locs la hP hS hl
  rwa [show vI (bX x y) = Value.int (iI (bX x y)) from rfl, show iI (bX x y) = _ from iI_back _] at h
theorem a_ishl (a : AM p l e s m args meth c own Ts cc nL D X ad) {x y : Int} (hdg : decode cc pc = .ok (.ishl, 1))
    (k : GG p l e R s m args below meth c cells slots Q D X ad nL (pc + 1) ls (vI (bL x y) :: st) σ) : GG p l e R s m args below meth c cells slots Q D X ad nL pc ls (vI y :: vI x :: st) σ := by
  intro H locs la hP hS hl
  refine lv_ishl a.1.1 a.1.2.1 hdg ?_
  have h := k H locs la hP hS hl
  rwa [show vI (bL x y) = Value.int (iI (bL x y)) from rfl, show iI (bL x y) = _ from iI_back _] at h
theorem a_ishr (a : AM p l e s m args meth c own Ts cc nL D X ad) {x y : Int} (hdg : decode cc pc = .ok (.ishr, 1))
    (k : GG p l e R s m args below meth c cells slots Q D X ad nL (pc + 1) ls (vI (bR x y) :: st) σ) : GG p l e R s m args below meth c cells slots Q D X ad nL pc ls (vI y :: vI x :: st) σ := by
  intro H locs la hP hS hl
  refine lv_ishr a.1.1 a.1.2.1 hdg ?_
  have h := k H locs la hP hS hl
  rwa [show vI (bR x y) = Value.int (iI (bR x y)) from rfl, show iI (bR x y) = _ from iI_back _] at h
theorem a_dcmp0 (a : AM p l e s m args meth c own Ts cc nL D X ad) {x y : UInt64} {op : CmpOp} (hxy : Op.cmpValue (FP.dcmp x y) op = 0) (hdg : decode cc pc = .ok (.dcmp op, 1))
    (k : GG p l e R s m args below meth c cells slots Q D X ad nL (pc + 1) ls (vI 0 :: st) σ) : GG p l e R s m args below meth c cells slots Q D X ad nL pc ls (Value.double y :: Value.double x :: st) σ := by
  intro H locs la hP hS hl
  refine lv_dcmp a.1.1 a.1.2.1 hdg ?_
  rw [hxy]
  exact k H locs la hP hS hl
theorem a_dload (a : AM p l e s m args meth c own Ts cc nL D X ad) {i : Nat} {x : UInt64} (j : Nat) (hdg : decode cc pc = .ok (.dload i, 2)) (hj : ls[j]? = some (i, Value.double x))
    (k : GG p l e R s m args below meth c cells slots Q D X ad nL (pc + 2) ls (Value.double x :: st) σ) : GG p l e R s m args below meth c cells slots Q D X ad nL pc ls (st) σ := by
  intro H locs la hP hS hl
  exact lv_dload a.1.1 a.1.2.1 hdg (lv_at hl j hj) (k H locs la hP hS hl)
theorem a_dstore (a : AM p l e s m args meth c own Ts cc nL D X ad) {i : Nat} {x : UInt64} (hdg : decode cc pc = .ok (.dstore i, 2)) (hn : i + 1 < nL) (hl1 : (i, Value.double x) :: ls.filter (fun q => !(q.1 == i) && (!(q.1 == i + 1) && !(q.1 + 1 == i && q.2.category == 2))) = ls1)
    (k : GG p l e R s m args below meth c cells slots Q D X ad nL (pc + 2) ls1 (st) σ) : GG p l e R s m args below meth c cells slots Q D X ad nL pc ls (Value.double x :: st) σ := by
  intro H locs la hP hS hl
  exact lv_dstore a.1.1 a.1.2.1 hdg hl hn hl1 (fun la1 hl2 => k H locs la1 hP hS hl2)
theorem a_slen (a : AM p l e s m args meth c own Ts cc nL D X ad) {bb L : Nat} {xs : Nat → Int32} (hX : va_X bb L xs s s.heap) (hbl : bb < s.heap.size) (hbA : ¬ AA ad s.heap.size bb) (hdg : decode cc pc = .ok (.arraylength, 1))
    (k : GG p l e R s m args below meth c cells slots Q D X ad nL (pc + 1) ls (vI L :: st) σ) : GG p l e R s m args below meth c cells slots Q D X ad nL pc ls (Value.ref bb :: st) σ := by
  intro H locs la hP hS hl
  refine va_slen a.1.1 a.1.2.1 hX hbl hbA hS hdg ?_
  have h := k H locs la hP hS hl
  rwa [show vI (L : Int) = Value.int (Int32.ofNat L) from congrArg Value.int Int32.ofInt_eq_ofNat] at h
theorem a_sld (a : AM p l e s m args meth c own Ts cc nL D X ad) {bb L : Nat} {xs : Nat → Int32} {i : Int} (hX : va_X bb L xs s s.heap) (hbl : bb < s.heap.size) (hbA : ¬ AA ad s.heap.size bb) (hL : L ≤ 3072) (hi : 0 ≤ i ∧ i < L) (hdg : decode cc pc = .ok (.iaload, 1))
    (k : GG p l e R s m args below meth c cells slots Q D X ad nL (pc + 1) ls (vI (xs i.toNat).toInt :: st) σ) : GG p l e R s m args below meth c cells slots Q D X ad nL pc ls (vI i :: Value.ref bb :: st) σ := by
  intro H locs la hP hS hl
  obtain ⟨hi1, hi2⟩ := iI_in (n := L) hi (by omega)
  refine va_sld a.1.1 a.1.2.1 hX hbl hbA hS hi1 hdg ?_
  rw [hi2]
  have h := k H locs la hP hS hl
  rwa [show vI (xs i.toNat).toInt = Value.int (xs i.toNat) from congrArg Value.int (iI_back _)] at h
theorem a_newI (a : AM p l e s m args meth c own Ts cc nL D X ad) {N n : Nat} {ni : Int} (hw : nW ad = N) (hN : N = 165 ∨ N = 166) (hsh : shp N = (0, n)) (hn : ni = n) (hn2 : n < 100000) (LL : (Nat → Nat) → List (Nat × Value)) (hLL : ∀ A : Nat, LL (adP ad N A) = LL ad) (hls : ls = LL ad) (harr : (Cond.arrayClass .int).before args s = true) (hce : cells + 1 ≤ R.cells) (hsl : slots + n ≤ R.slots) (hdg : decode cc pc = .ok (.newarray .int, 2))
    (k : ∀ ad1 : Nat → Nat, AM p l e s m args meth c own Ts cc nL D X ad1 → nW ad1 = N + 1 → tyw ad1 N (0, n) → (∀ (τ : St) (H : Heap), va_P D vwCl (wsO X ad1 τ) H → va_P D vwCl (wsO X ad τ) H) → AA ad1 s.heap.size = AA ad s.heap.size → GG p l e R s m args below meth c (cells + 1) (slots + n) Q D X ad1 nL (pc + 2) (LL ad1) (Value.ref (ad1 N) :: []) (zr σ N)) : GG p l e R s m args below meth c cells slots Q D X ad nL pc ls (vI ni :: []) σ := by
  intro H locs la hP hS hl
  subst hn hls
  have hi : (iI (n : Int)).toInt = n := iI_toInt ⟨by omega, by omega⟩
  have h0 : ¬ iI (n : Int) < 0 := by rw [iI_0, iI_lt ⟨by omega, by omega⟩ ⟨by omega, by omega⟩]; omega
  have h1 : (iI (n : Int)).toNatClampNeg = n := by rw [← Int32.toNat_toInt, hi]; omega
  have hD := ws_D (X := X) (σ := σ) (sz := s.heap.size) a.2.2.1
  refine va_newa (atype := .int) a.1.1 a.1.2.1 harr rfl a.2.1 hP hD hS (fun q h => Or.inr h) (a0 := (n, .inl (fun _ => iI 0))) (N' := n) (fun cA => ?_) h0 h1 (Nat.le_trans (Nat.mul_le_mul_left n (show componentBytes (newarray.typeOf .int) ≤ 8 by decide)) (by omega)) hce hsl hdg (fun q cA H1 hK hP1 hD1 hS1 => ?_)
  · first | rfl | (rw [vp_cell_i]; rfl) | (simp only [vp_cell]; congr 1)
  have e : cA = X.1 := by
    have g1 := (hK.2 3 (cA, .int) rfl).2
    have g2 := (a.2.1.2 0 (X.1, .int) rfl).2
    exact Option.some.inj (g1.symm.trans g2)
  subst e
  have hlen : (wsO X ad σ).length = N := by simp [wsO, hw]
  have hqn : (wsO X ad σ ++ [(q, (.inl (X.1, n, .inl (fun _ => iI 0)) : va_E))])[N]? = some (q, .inl (X.1, n, .inl (fun _ => iI 0))) := by
    rw [List.getElem?_append_right (by omega), hlen, Nat.sub_self]; rfl
  have hqo : ∀ k : Nat, k < N → (wsO X ad σ ++ [(q, (.inl (X.1, n, .inl (fun _ => iI 0)) : va_E))])[k]? = some (ad k, cel X ad k (σ k)) := fun k hk => by
    rw [List.getElem?_append_left (by omega), ws_get (by omega)]
  have hne : ∀ k : Nat, k < N → ad k ≠ q := fun k hk z => by
    have := hD1.1 k N _ _ (hqo k hk) hqn z
    omega
  have hqs : s.heap.size ≤ q := by
    rcases hD1.2 N _ hqn with ⟨k, hk, z⟩ | z
    · exact absurd z.symm (hne k (by omega))
    · exact z
  have p1 : nW (adP ad N q) = N + 1 := by unfold nW adP; rw [if_neg (by omega), if_pos rfl]
  have p2 : adP ad N q N = q := by unfold adP; rw [if_pos rfl]
  have p3 : ∀ k : Nat, k < N → adP ad N q k = ad k := fun k hk => by unfold adP; rw [if_neg (by omega), if_neg (by omega)]
  have pA : AA (adP ad N q) s.heap.size = AA ad s.heap.size := by
    funext x
    refine propext ⟨fun h => ?_, fun h => ?_⟩
    · rcases h with ⟨k, hk, z⟩ | z
      · by_cases e : k = N
        · rw [e, p2] at z; exact Or.inr (by omega)
        · rw [p3 k (by omega)] at z; exact Or.inl ⟨k, by omega, z⟩
      · exact Or.inr z
    · rcases h with ⟨k, hk, z⟩ | z
      · exact Or.inl ⟨k, by omega, by rw [p3 k (by omega)]; exact z⟩
      · exact Or.inr z
  have pI : adI (adP ad N q) := by
    refine ⟨by rw [p1]; omega, fun i j hi hj z => ?_⟩
    rw [p1] at hi hj
    by_cases e1 : i = N
    · by_cases e2 : j = N
      · omega
      · rw [e1, p2, p3 j (by omega)] at z; exact absurd z.symm (hne j (by omega))
    · by_cases e2 : j = N
      · rw [e2, p2, p3 i (by omega)] at z; exact absurd z (hne i (by omega))
      · rw [p3 i (by omega), p3 j (by omega)] at z
        exact a.2.2.1.2 i j (by omega) (by omega) z
  have pW : wsO X (adP ad N q) (zr σ N) = wsO X ad σ ++ [(q, .inl (X.1, n, .inl (fun _ => iI 0)))] := by
    refine List.ext_getElem? fun j => ?_
    by_cases e1 : j < N
    · rw [hqo j e1, ws_get (by omega), p3 j e1, cel_adP hN (by omega)]
      have : zr σ N j = σ j := by funext i; unfold zr; rw [if_neg (by omega)]
      rw [this]
    · by_cases e2 : j = N
      · subst e2
        rw [hqn, ws_get (by omega), p2, cel0 hsh]
        have : zr σ j j = fun _ => 0 := by funext i; unfold zr; rw [if_pos rfl]
        rw [this]
      · rw [List.getElem?_eq_none (by simp [wsO]; omega), List.getElem?_eq_none (by simp [wsO]; omega)]
  refine k (adP ad N q) ⟨a.1, a.2.1, pI, by rw [pA]; exact a.2.2.2.1, a.2.2.2.2⟩ p1 ⟨by omega, hsh⟩ (fun τ H2 h2 k x hk => ?_) pA H1 locs la (by rw [pW]; exact hP1) (by rw [pA]; exact hS1) (by rw [hLL]; exact hl) |> (fun h => by rw [p2] at h; exact h)
  have hk2 : k < N := by
    have := (List.getElem?_eq_some_iff.mp hk).1
    simp [wsO] at this
    omega
  refine h2 k x ?_
  rw [ws_get (by omega)] at hk
  rw [ws_get (by omega), p3 k hk2, cel_adP hN (by omega)]
  exact hk
theorem a_i2d (a : AM p l e s m args meth c own Ts cc nL D X ad) {x : Int} (hdg : decode cc pc = .ok (.i2d, 1))
    (k : GG p l e R s m args below meth c cells slots Q D X ad nL (pc + 1) ls (Value.double (FP.i2d (iI x)) :: st) σ) : GG p l e R s m args below meth c cells slots Q D X ad nL pc ls (vI x :: st) σ := by
  intro H locs la hP hS hl
  exact lv_i2d a.1.1 a.1.2.1 hdg (k H locs la hP hS hl)
theorem a_ddiv (a : AM p l e s m args meth c own Ts cc nL D X ad) {x y : UInt64} (hn : vf_n64 (FP.ddiv x y)) (hdg : decode cc pc = .ok (.ddiv, 1))
    (k : GG p l e R s m args below meth c cells slots Q D X ad nL (pc + 1) ls (Value.double (FP.ddiv x y) :: st) σ) : GG p l e R s m args below meth c cells slots Q D X ad nL pc ls (Value.double y :: Value.double x :: st) σ := by
  intro H locs la hP hS hl
  exact lv_ddiv a.1.1 a.1.2.1 hdg hn (k H locs la hP hS hl)
theorem a_dconst1 (a : AM p l e s m args meth c own Ts cc nL D X ad) (hdg : decode cc pc = .ok (.dconst 1, 1))
    (k : GG p l e R s m args below meth c cells slots Q D X ad nL (pc + 1) ls (Value.double FP.dconst1 :: st) σ) : GG p l e R s m args below meth c cells slots Q D X ad nL pc ls (st) σ := by
  intro H locs la hP hS hl
  exact lv_dconst1 a.1.1 a.1.2.1 hdg (k H locs la hP hS hl)
theorem a_nm {x : Int} (k : ∀ y : Int, y = x → GG p l e R s m args below meth c cells slots Q D X ad nL pc ls (vI y :: st) σ) : GG p l e R s m args below meth c cells slots Q D X ad nL pc ls (vI x :: st) σ := k x rfl
theorem a_nmJ {x : Int} (k : ∀ y : Int, y = x → GG p l e R s m args below meth c cells slots Q D X ad nL pc ls (vJ y :: st) σ) : GG p l e R s m args below meth c cells slots Q D X ad nL pc ls (vJ x :: st) σ := k x rfl
theorem a_nmR {x : Nat} (k : ∀ y : Nat, y = x → GG p l e R s m args below meth c cells slots Q D X ad nL pc ls (Value.ref (ad y) :: st) σ) : GG p l e R s m args below meth c cells slots Q D X ad nL pc ls (Value.ref (ad x) :: st) σ := k x rfl
theorem a_nmS (k : ∀ τ : St, τ = σ → GG p l e R s m args below meth c cells slots Q D X ad nL pc ls st τ) : GG p l e R s m args below meth c cells slots Q D X ad nL pc ls st σ := k σ rfl
theorem a_wid (c1 s1 : Nat) (h1 : cells ≤ c1) (h2 : slots ≤ s1) (k : GG p l e R s m args below meth c c1 s1 Q D X ad nL pc ls st σ) : GG p l e R s m args below meth c cells slots Q D X ad nL pc ls st σ := fun H locs la hP hS hl => W.widen h1 h2 (k H locs la hP hS hl)
theorem g_wj0 {J : Prop} {B : (Prop) → Prop} (pcJ cJ sJ : Nat) (LL : List (Nat × Value)) (SS : List Value) (h : wj0 J B) (hJ : J  → GG p l e R s m args below meth c cJ sJ Q D X ad nL pcJ LL SS σ)
    (hB : ∀ J1 : Prop, (J1  → GG p l e R s m args below meth c cJ sJ Q D X ad nL pcJ LL SS σ) → B J1 → GG p l e R s m args below meth c cells slots Q D X ad nL pc ls st σ) : GG p l e R s m args below meth c cells slots Q D X ad nL pc ls st σ := hB J hJ h
theorem g_wl0s {f : St → (St → Prop) → Prop} (LL : List (Nat × Value)) {τ : St} (h : ∃ n, wl0s f n τ)
    (hs : ∀ (τ : St) (ag : St → Prop), (∀ (τ1 : St) , ag τ1 → GG p l e R s m args below meth c cells slots Q D X ad nL pc LL [] τ1) → f τ ag → GG p l e R s m args below meth c cells slots Q D X ad nL pc LL [] τ) : GG p l e R s m args below meth c cells slots Q D X ad nL pc LL [] τ :=
  wl0s_run (P := fun τ => GG p l e R s m args below meth c cells slots Q D X ad nL pc LL [] τ) hs h
theorem g_wb0s {f : St → (St → Prop) → Prop} (B mc ms Tc Ts : Nat) (LL : List (Nat × Value)) {τ : St} (h : ∃ n, n ≤ B ∧ wl0s f n τ) (hTc : B * mc ≤ Tc) (hTs : B * ms ≤ Ts)
    (hs : ∀ (τ : St) (ag : St → Prop) (c9 s9 : Nat), c9 + mc ≤ cells + Tc → s9 + ms ≤ slots + Ts → (∀ (τ1 : St) , ag τ1 → GG p l e R s m args below meth c (c9 + mc) (s9 + ms) Q D X ad nL pc LL [] τ1) → f τ ag → GG p l e R s m args below meth c c9 s9 Q D X ad nL pc LL [] τ) : GG p l e R s m args below meth c cells slots Q D X ad nL pc LL [] τ := by
  obtain ⟨n, hn, h⟩ := h
  have key : ∀ n : Nat, n ≤ B → ∀ (τ : St) , wl0s f n τ → GG p l e R s m args below meth c (cells + (B - n) * mc) (slots + (B - n) * ms) Q D X ad nL pc LL [] τ := by
    intro n
    induction n with
    | zero => intro _ τ h; exact h.elim
    | succ n ih =>
      intro hn τ h
      have e : B - n = (B - (n + 1)) + 1 := by omega
      have e1 : (B - n) * mc = (B - (n + 1)) * mc + mc := by rw [e, Nat.succ_mul]
      have e2 : (B - n) * ms = (B - (n + 1)) * ms + ms := by rw [e, Nat.succ_mul]
      have e3 := Nat.mul_le_mul_right mc (Nat.sub_le B n)
      have e4 := Nat.mul_le_mul_right ms (Nat.sub_le B n)
      refine hs τ (wl0s f n) _ _ (by omega) (by omega) (fun τ1 h1 => ?_) h
      have h2 := ih (by omega) τ1 h1
      rw [e1, e2, ← Nat.add_assoc, ← Nat.add_assoc] at h2
      exact h2
  exact a_wid _ _ (by omega) (by omega) (key n hn τ h)
theorem g_wj0s {J : St → Prop} {B : (St → Prop) → Prop} (pcJ cJ sJ : Nat) (LL : List (Nat × Value)) (SS : List Value) (h : wj0s J B) (hJ : ∀ (τ : St) , J τ → GG p l e R s m args below meth c cJ sJ Q D X ad nL pcJ LL SS τ)
    (hB : ∀ J1 : St → Prop, (∀ (τ : St) , J1 τ → GG p l e R s m args below meth c cJ sJ Q D X ad nL pcJ LL SS τ) → B J1 → GG p l e R s m args below meth c cells slots Q D X ad nL pc ls st σ) : GG p l e R s m args below meth c cells slots Q D X ad nL pc ls st σ := hB J hJ h
theorem g_wl1 {f : Int → (Int → Prop) → Prop} (LL : Int → List (Nat × Value)) {ya : Int} (h : ∃ n, wl1 f n ya)
    (hs : ∀ (ya : Int) (ag : Int → Prop), (∀ (ya1 : Int) , ag ya1 → GG p l e R s m args below meth c cells slots Q D X ad nL pc (LL ya1) [] σ) → f ya ag → GG p l e R s m args below meth c cells slots Q D X ad nL pc (LL ya) [] σ) : GG p l e R s m args below meth c cells slots Q D X ad nL pc (LL ya) [] σ :=
  wl1_run (P := fun ya => GG p l e R s m args below meth c cells slots Q D X ad nL pc (LL ya) [] σ) hs h
theorem g_wj1 {J : Int → Prop} {B : (Int → Prop) → Prop} (pcJ cJ sJ : Nat) (LL : Int → List (Nat × Value)) (SS : Int → List Value) (h : wj1 J B) (hJ : ∀ (ya : Int) , J ya → GG p l e R s m args below meth c cJ sJ Q D X ad nL pcJ (LL ya) (SS ya) σ)
    (hB : ∀ J1 : Int → Prop, (∀ (ya : Int) , J1 ya → GG p l e R s m args below meth c cJ sJ Q D X ad nL pcJ (LL ya) (SS ya) σ) → B J1 → GG p l e R s m args below meth c cells slots Q D X ad nL pc ls st σ) : GG p l e R s m args below meth c cells slots Q D X ad nL pc ls st σ := hB J hJ h
theorem g_wl1s {f : Int → St → (Int → St → Prop) → Prop} (LL : Int → List (Nat × Value)) {ya : Int} {τ : St} (h : ∃ n, wl1s f n ya τ)
    (hs : ∀ (ya : Int) (τ : St) (ag : Int → St → Prop), (∀ (ya1 : Int) (τ1 : St) , ag ya1 τ1 → GG p l e R s m args below meth c cells slots Q D X ad nL pc (LL ya1) [] τ1) → f ya τ ag → GG p l e R s m args below meth c cells slots Q D X ad nL pc (LL ya) [] τ) : GG p l e R s m args below meth c cells slots Q D X ad nL pc (LL ya) [] τ :=
  wl1s_run (P := fun ya τ => GG p l e R s m args below meth c cells slots Q D X ad nL pc (LL ya) [] τ) hs h
theorem g_wb1s {f : Int → St → (Int → St → Prop) → Prop} (B mc ms Tc Ts : Nat) (LL : Int → List (Nat × Value)) {ya : Int} {τ : St} (h : ∃ n, n ≤ B ∧ wl1s f n ya τ) (hTc : B * mc ≤ Tc) (hTs : B * ms ≤ Ts)
    (hs : ∀ (ya : Int) (τ : St) (ag : Int → St → Prop) (c9 s9 : Nat), c9 + mc ≤ cells + Tc → s9 + ms ≤ slots + Ts → (∀ (ya1 : Int) (τ1 : St) , ag ya1 τ1 → GG p l e R s m args below meth c (c9 + mc) (s9 + ms) Q D X ad nL pc (LL ya1) [] τ1) → f ya τ ag → GG p l e R s m args below meth c c9 s9 Q D X ad nL pc (LL ya) [] τ) : GG p l e R s m args below meth c cells slots Q D X ad nL pc (LL ya) [] τ := by
  obtain ⟨n, hn, h⟩ := h
  have key : ∀ n : Nat, n ≤ B → ∀ (ya : Int) (τ : St) , wl1s f n ya τ → GG p l e R s m args below meth c (cells + (B - n) * mc) (slots + (B - n) * ms) Q D X ad nL pc (LL ya) [] τ := by
    intro n
    induction n with
    | zero => intro _ ya τ h; exact h.elim
    | succ n ih =>
      intro hn ya τ h
      have e : B - n = (B - (n + 1)) + 1 := by omega
      have e1 : (B - n) * mc = (B - (n + 1)) * mc + mc := by rw [e, Nat.succ_mul]
      have e2 : (B - n) * ms = (B - (n + 1)) * ms + ms := by rw [e, Nat.succ_mul]
      have e3 := Nat.mul_le_mul_right mc (Nat.sub_le B n)
      have e4 := Nat.mul_le_mul_right ms (Nat.sub_le B n)
      refine hs ya τ (wl1s f n) _ _ (by omega) (by omega) (fun ya1 τ1 h1 => ?_) h
      have h2 := ih (by omega) ya1 τ1 h1
      rw [e1, e2, ← Nat.add_assoc, ← Nat.add_assoc] at h2
      exact h2
  exact a_wid _ _ (by omega) (by omega) (key n hn ya τ h)
theorem g_wj1s {J : Int → St → Prop} {B : (Int → St → Prop) → Prop} (pcJ cJ sJ : Nat) (LL : Int → List (Nat × Value)) (SS : Int → List Value) (h : wj1s J B) (hJ : ∀ (ya : Int) (τ : St) , J ya τ → GG p l e R s m args below meth c cJ sJ Q D X ad nL pcJ (LL ya) (SS ya) τ)
    (hB : ∀ J1 : Int → St → Prop, (∀ (ya : Int) (τ : St) , J1 ya τ → GG p l e R s m args below meth c cJ sJ Q D X ad nL pcJ (LL ya) (SS ya) τ) → B J1 → GG p l e R s m args below meth c cells slots Q D X ad nL pc ls st σ) : GG p l e R s m args below meth c cells slots Q D X ad nL pc ls st σ := hB J hJ h
theorem g_wl2 {f : Int → Int → (Int → Int → Prop) → Prop} (LL : Int → Int → List (Nat × Value)) {ya yb : Int} (h : ∃ n, wl2 f n ya yb)
    (hs : ∀ (ya yb : Int) (ag : Int → Int → Prop), (∀ (ya1 yb1 : Int) , ag ya1 yb1 → GG p l e R s m args below meth c cells slots Q D X ad nL pc (LL ya1 yb1) [] σ) → f ya yb ag → GG p l e R s m args below meth c cells slots Q D X ad nL pc (LL ya yb) [] σ) : GG p l e R s m args below meth c cells slots Q D X ad nL pc (LL ya yb) [] σ :=
  wl2_run (P := fun ya yb => GG p l e R s m args below meth c cells slots Q D X ad nL pc (LL ya yb) [] σ) hs h
theorem g_wj2 {J : Int → Int → Prop} {B : (Int → Int → Prop) → Prop} (pcJ cJ sJ : Nat) (LL : Int → Int → List (Nat × Value)) (SS : Int → Int → List Value) (h : wj2 J B) (hJ : ∀ (ya yb : Int) , J ya yb → GG p l e R s m args below meth c cJ sJ Q D X ad nL pcJ (LL ya yb) (SS ya yb) σ)
    (hB : ∀ J1 : Int → Int → Prop, (∀ (ya yb : Int) , J1 ya yb → GG p l e R s m args below meth c cJ sJ Q D X ad nL pcJ (LL ya yb) (SS ya yb) σ) → B J1 → GG p l e R s m args below meth c cells slots Q D X ad nL pc ls st σ) : GG p l e R s m args below meth c cells slots Q D X ad nL pc ls st σ := hB J hJ h
theorem g_wl2s {f : Int → Int → St → (Int → Int → St → Prop) → Prop} (LL : Int → Int → List (Nat × Value)) {ya yb : Int} {τ : St} (h : ∃ n, wl2s f n ya yb τ)
    (hs : ∀ (ya yb : Int) (τ : St) (ag : Int → Int → St → Prop), (∀ (ya1 yb1 : Int) (τ1 : St) , ag ya1 yb1 τ1 → GG p l e R s m args below meth c cells slots Q D X ad nL pc (LL ya1 yb1) [] τ1) → f ya yb τ ag → GG p l e R s m args below meth c cells slots Q D X ad nL pc (LL ya yb) [] τ) : GG p l e R s m args below meth c cells slots Q D X ad nL pc (LL ya yb) [] τ :=
  wl2s_run (P := fun ya yb τ => GG p l e R s m args below meth c cells slots Q D X ad nL pc (LL ya yb) [] τ) hs h
theorem g_wb2s {f : Int → Int → St → (Int → Int → St → Prop) → Prop} (B mc ms Tc Ts : Nat) (LL : Int → Int → List (Nat × Value)) {ya yb : Int} {τ : St} (h : ∃ n, n ≤ B ∧ wl2s f n ya yb τ) (hTc : B * mc ≤ Tc) (hTs : B * ms ≤ Ts)
    (hs : ∀ (ya yb : Int) (τ : St) (ag : Int → Int → St → Prop) (c9 s9 : Nat), c9 + mc ≤ cells + Tc → s9 + ms ≤ slots + Ts → (∀ (ya1 yb1 : Int) (τ1 : St) , ag ya1 yb1 τ1 → GG p l e R s m args below meth c (c9 + mc) (s9 + ms) Q D X ad nL pc (LL ya1 yb1) [] τ1) → f ya yb τ ag → GG p l e R s m args below meth c c9 s9 Q D X ad nL pc (LL ya yb) [] τ) : GG p l e R s m args below meth c cells slots Q D X ad nL pc (LL ya yb) [] τ := by
  obtain ⟨n, hn, h⟩ := h
  have key : ∀ n : Nat, n ≤ B → ∀ (ya yb : Int) (τ : St) , wl2s f n ya yb τ → GG p l e R s m args below meth c (cells + (B - n) * mc) (slots + (B - n) * ms) Q D X ad nL pc (LL ya yb) [] τ := by
    intro n
    induction n with
    | zero => intro _ ya yb τ h; exact h.elim
    | succ n ih =>
      intro hn ya yb τ h
      have e : B - n = (B - (n + 1)) + 1 := by omega
      have e1 : (B - n) * mc = (B - (n + 1)) * mc + mc := by rw [e, Nat.succ_mul]
      have e2 : (B - n) * ms = (B - (n + 1)) * ms + ms := by rw [e, Nat.succ_mul]
      have e3 := Nat.mul_le_mul_right mc (Nat.sub_le B n)
      have e4 := Nat.mul_le_mul_right ms (Nat.sub_le B n)
      refine hs ya yb τ (wl2s f n) _ _ (by omega) (by omega) (fun ya1 yb1 τ1 h1 => ?_) h
      have h2 := ih (by omega) ya1 yb1 τ1 h1
      rw [e1, e2, ← Nat.add_assoc, ← Nat.add_assoc] at h2
      exact h2
  exact a_wid _ _ (by omega) (by omega) (key n hn ya yb τ h)
theorem g_wj2s {J : Int → Int → St → Prop} {B : (Int → Int → St → Prop) → Prop} (pcJ cJ sJ : Nat) (LL : Int → Int → List (Nat × Value)) (SS : Int → Int → List Value) (h : wj2s J B) (hJ : ∀ (ya yb : Int) (τ : St) , J ya yb τ → GG p l e R s m args below meth c cJ sJ Q D X ad nL pcJ (LL ya yb) (SS ya yb) τ)
    (hB : ∀ J1 : Int → Int → St → Prop, (∀ (ya yb : Int) (τ : St) , J1 ya yb τ → GG p l e R s m args below meth c cJ sJ Q D X ad nL pcJ (LL ya yb) (SS ya yb) τ) → B J1 → GG p l e R s m args below meth c cells slots Q D X ad nL pc ls st σ) : GG p l e R s m args below meth c cells slots Q D X ad nL pc ls st σ := hB J hJ h
theorem g_wl3 {f : Int → Int → Int → (Int → Int → Int → Prop) → Prop} (LL : Int → Int → Int → List (Nat × Value)) {ya yb yc : Int} (h : ∃ n, wl3 f n ya yb yc)
    (hs : ∀ (ya yb yc : Int) (ag : Int → Int → Int → Prop), (∀ (ya1 yb1 yc1 : Int) , ag ya1 yb1 yc1 → GG p l e R s m args below meth c cells slots Q D X ad nL pc (LL ya1 yb1 yc1) [] σ) → f ya yb yc ag → GG p l e R s m args below meth c cells slots Q D X ad nL pc (LL ya yb yc) [] σ) : GG p l e R s m args below meth c cells slots Q D X ad nL pc (LL ya yb yc) [] σ :=
  wl3_run (P := fun ya yb yc => GG p l e R s m args below meth c cells slots Q D X ad nL pc (LL ya yb yc) [] σ) hs h
theorem g_wj3 {J : Int → Int → Int → Prop} {B : (Int → Int → Int → Prop) → Prop} (pcJ cJ sJ : Nat) (LL : Int → Int → Int → List (Nat × Value)) (SS : Int → Int → Int → List Value) (h : wj3 J B) (hJ : ∀ (ya yb yc : Int) , J ya yb yc → GG p l e R s m args below meth c cJ sJ Q D X ad nL pcJ (LL ya yb yc) (SS ya yb yc) σ)
    (hB : ∀ J1 : Int → Int → Int → Prop, (∀ (ya yb yc : Int) , J1 ya yb yc → GG p l e R s m args below meth c cJ sJ Q D X ad nL pcJ (LL ya yb yc) (SS ya yb yc) σ) → B J1 → GG p l e R s m args below meth c cells slots Q D X ad nL pc ls st σ) : GG p l e R s m args below meth c cells slots Q D X ad nL pc ls st σ := hB J hJ h
theorem g_wl3s {f : Int → Int → Int → St → (Int → Int → Int → St → Prop) → Prop} (LL : Int → Int → Int → List (Nat × Value)) {ya yb yc : Int} {τ : St} (h : ∃ n, wl3s f n ya yb yc τ)
    (hs : ∀ (ya yb yc : Int) (τ : St) (ag : Int → Int → Int → St → Prop), (∀ (ya1 yb1 yc1 : Int) (τ1 : St) , ag ya1 yb1 yc1 τ1 → GG p l e R s m args below meth c cells slots Q D X ad nL pc (LL ya1 yb1 yc1) [] τ1) → f ya yb yc τ ag → GG p l e R s m args below meth c cells slots Q D X ad nL pc (LL ya yb yc) [] τ) : GG p l e R s m args below meth c cells slots Q D X ad nL pc (LL ya yb yc) [] τ :=
  wl3s_run (P := fun ya yb yc τ => GG p l e R s m args below meth c cells slots Q D X ad nL pc (LL ya yb yc) [] τ) hs h
theorem g_wb3s {f : Int → Int → Int → St → (Int → Int → Int → St → Prop) → Prop} (B mc ms Tc Ts : Nat) (LL : Int → Int → Int → List (Nat × Value)) {ya yb yc : Int} {τ : St} (h : ∃ n, n ≤ B ∧ wl3s f n ya yb yc τ) (hTc : B * mc ≤ Tc) (hTs : B * ms ≤ Ts)
    (hs : ∀ (ya yb yc : Int) (τ : St) (ag : Int → Int → Int → St → Prop) (c9 s9 : Nat), c9 + mc ≤ cells + Tc → s9 + ms ≤ slots + Ts → (∀ (ya1 yb1 yc1 : Int) (τ1 : St) , ag ya1 yb1 yc1 τ1 → GG p l e R s m args below meth c (c9 + mc) (s9 + ms) Q D X ad nL pc (LL ya1 yb1 yc1) [] τ1) → f ya yb yc τ ag → GG p l e R s m args below meth c c9 s9 Q D X ad nL pc (LL ya yb yc) [] τ) : GG p l e R s m args below meth c cells slots Q D X ad nL pc (LL ya yb yc) [] τ := by
  obtain ⟨n, hn, h⟩ := h
  have key : ∀ n : Nat, n ≤ B → ∀ (ya yb yc : Int) (τ : St) , wl3s f n ya yb yc τ → GG p l e R s m args below meth c (cells + (B - n) * mc) (slots + (B - n) * ms) Q D X ad nL pc (LL ya yb yc) [] τ := by
    intro n
    induction n with
    | zero => intro _ ya yb yc τ h; exact h.elim
    | succ n ih =>
      intro hn ya yb yc τ h
      have e : B - n = (B - (n + 1)) + 1 := by omega
      have e1 : (B - n) * mc = (B - (n + 1)) * mc + mc := by rw [e, Nat.succ_mul]
      have e2 : (B - n) * ms = (B - (n + 1)) * ms + ms := by rw [e, Nat.succ_mul]
      have e3 := Nat.mul_le_mul_right mc (Nat.sub_le B n)
      have e4 := Nat.mul_le_mul_right ms (Nat.sub_le B n)
      refine hs ya yb yc τ (wl3s f n) _ _ (by omega) (by omega) (fun ya1 yb1 yc1 τ1 h1 => ?_) h
      have h2 := ih (by omega) ya1 yb1 yc1 τ1 h1
      rw [e1, e2, ← Nat.add_assoc, ← Nat.add_assoc] at h2
      exact h2
  exact a_wid _ _ (by omega) (by omega) (key n hn ya yb yc τ h)
theorem g_wj3s {J : Int → Int → Int → St → Prop} {B : (Int → Int → Int → St → Prop) → Prop} (pcJ cJ sJ : Nat) (LL : Int → Int → Int → List (Nat × Value)) (SS : Int → Int → Int → List Value) (h : wj3s J B) (hJ : ∀ (ya yb yc : Int) (τ : St) , J ya yb yc τ → GG p l e R s m args below meth c cJ sJ Q D X ad nL pcJ (LL ya yb yc) (SS ya yb yc) τ)
    (hB : ∀ J1 : Int → Int → Int → St → Prop, (∀ (ya yb yc : Int) (τ : St) , J1 ya yb yc τ → GG p l e R s m args below meth c cJ sJ Q D X ad nL pcJ (LL ya yb yc) (SS ya yb yc) τ) → B J1 → GG p l e R s m args below meth c cells slots Q D X ad nL pc ls st σ) : GG p l e R s m args below meth c cells slots Q D X ad nL pc ls st σ := hB J hJ h
theorem g_wl4 {f : Int → Int → Int → Int → (Int → Int → Int → Int → Prop) → Prop} (LL : Int → Int → Int → Int → List (Nat × Value)) {ya yb yc yd : Int} (h : ∃ n, wl4 f n ya yb yc yd)
    (hs : ∀ (ya yb yc yd : Int) (ag : Int → Int → Int → Int → Prop), (∀ (ya1 yb1 yc1 yd1 : Int) , ag ya1 yb1 yc1 yd1 → GG p l e R s m args below meth c cells slots Q D X ad nL pc (LL ya1 yb1 yc1 yd1) [] σ) → f ya yb yc yd ag → GG p l e R s m args below meth c cells slots Q D X ad nL pc (LL ya yb yc yd) [] σ) : GG p l e R s m args below meth c cells slots Q D X ad nL pc (LL ya yb yc yd) [] σ :=
  wl4_run (P := fun ya yb yc yd => GG p l e R s m args below meth c cells slots Q D X ad nL pc (LL ya yb yc yd) [] σ) hs h
theorem g_wj4 {J : Int → Int → Int → Int → Prop} {B : (Int → Int → Int → Int → Prop) → Prop} (pcJ cJ sJ : Nat) (LL : Int → Int → Int → Int → List (Nat × Value)) (SS : Int → Int → Int → Int → List Value) (h : wj4 J B) (hJ : ∀ (ya yb yc yd : Int) , J ya yb yc yd → GG p l e R s m args below meth c cJ sJ Q D X ad nL pcJ (LL ya yb yc yd) (SS ya yb yc yd) σ)
    (hB : ∀ J1 : Int → Int → Int → Int → Prop, (∀ (ya yb yc yd : Int) , J1 ya yb yc yd → GG p l e R s m args below meth c cJ sJ Q D X ad nL pcJ (LL ya yb yc yd) (SS ya yb yc yd) σ) → B J1 → GG p l e R s m args below meth c cells slots Q D X ad nL pc ls st σ) : GG p l e R s m args below meth c cells slots Q D X ad nL pc ls st σ := hB J hJ h
theorem g_wl4s {f : Int → Int → Int → Int → St → (Int → Int → Int → Int → St → Prop) → Prop} (LL : Int → Int → Int → Int → List (Nat × Value)) {ya yb yc yd : Int} {τ : St} (h : ∃ n, wl4s f n ya yb yc yd τ)
    (hs : ∀ (ya yb yc yd : Int) (τ : St) (ag : Int → Int → Int → Int → St → Prop), (∀ (ya1 yb1 yc1 yd1 : Int) (τ1 : St) , ag ya1 yb1 yc1 yd1 τ1 → GG p l e R s m args below meth c cells slots Q D X ad nL pc (LL ya1 yb1 yc1 yd1) [] τ1) → f ya yb yc yd τ ag → GG p l e R s m args below meth c cells slots Q D X ad nL pc (LL ya yb yc yd) [] τ) : GG p l e R s m args below meth c cells slots Q D X ad nL pc (LL ya yb yc yd) [] τ :=
  wl4s_run (P := fun ya yb yc yd τ => GG p l e R s m args below meth c cells slots Q D X ad nL pc (LL ya yb yc yd) [] τ) hs h
theorem g_wb4s {f : Int → Int → Int → Int → St → (Int → Int → Int → Int → St → Prop) → Prop} (B mc ms Tc Ts : Nat) (LL : Int → Int → Int → Int → List (Nat × Value)) {ya yb yc yd : Int} {τ : St} (h : ∃ n, n ≤ B ∧ wl4s f n ya yb yc yd τ) (hTc : B * mc ≤ Tc) (hTs : B * ms ≤ Ts)
    (hs : ∀ (ya yb yc yd : Int) (τ : St) (ag : Int → Int → Int → Int → St → Prop) (c9 s9 : Nat), c9 + mc ≤ cells + Tc → s9 + ms ≤ slots + Ts → (∀ (ya1 yb1 yc1 yd1 : Int) (τ1 : St) , ag ya1 yb1 yc1 yd1 τ1 → GG p l e R s m args below meth c (c9 + mc) (s9 + ms) Q D X ad nL pc (LL ya1 yb1 yc1 yd1) [] τ1) → f ya yb yc yd τ ag → GG p l e R s m args below meth c c9 s9 Q D X ad nL pc (LL ya yb yc yd) [] τ) : GG p l e R s m args below meth c cells slots Q D X ad nL pc (LL ya yb yc yd) [] τ := by
  obtain ⟨n, hn, h⟩ := h
  have key : ∀ n : Nat, n ≤ B → ∀ (ya yb yc yd : Int) (τ : St) , wl4s f n ya yb yc yd τ → GG p l e R s m args below meth c (cells + (B - n) * mc) (slots + (B - n) * ms) Q D X ad nL pc (LL ya yb yc yd) [] τ := by
    intro n
    induction n with
    | zero => intro _ ya yb yc yd τ h; exact h.elim
    | succ n ih =>
      intro hn ya yb yc yd τ h
      have e : B - n = (B - (n + 1)) + 1 := by omega
      have e1 : (B - n) * mc = (B - (n + 1)) * mc + mc := by rw [e, Nat.succ_mul]
      have e2 : (B - n) * ms = (B - (n + 1)) * ms + ms := by rw [e, Nat.succ_mul]
      have e3 := Nat.mul_le_mul_right mc (Nat.sub_le B n)
      have e4 := Nat.mul_le_mul_right ms (Nat.sub_le B n)
      refine hs ya yb yc yd τ (wl4s f n) _ _ (by omega) (by omega) (fun ya1 yb1 yc1 yd1 τ1 h1 => ?_) h
      have h2 := ih (by omega) ya1 yb1 yc1 yd1 τ1 h1
      rw [e1, e2, ← Nat.add_assoc, ← Nat.add_assoc] at h2
      exact h2
  exact a_wid _ _ (by omega) (by omega) (key n hn ya yb yc yd τ h)
theorem g_wj4s {J : Int → Int → Int → Int → St → Prop} {B : (Int → Int → Int → Int → St → Prop) → Prop} (pcJ cJ sJ : Nat) (LL : Int → Int → Int → Int → List (Nat × Value)) (SS : Int → Int → Int → Int → List Value) (h : wj4s J B) (hJ : ∀ (ya yb yc yd : Int) (τ : St) , J ya yb yc yd τ → GG p l e R s m args below meth c cJ sJ Q D X ad nL pcJ (LL ya yb yc yd) (SS ya yb yc yd) τ)
    (hB : ∀ J1 : Int → Int → Int → Int → St → Prop, (∀ (ya yb yc yd : Int) (τ : St) , J1 ya yb yc yd τ → GG p l e R s m args below meth c cJ sJ Q D X ad nL pcJ (LL ya yb yc yd) (SS ya yb yc yd) τ) → B J1 → GG p l e R s m args below meth c cells slots Q D X ad nL pc ls st σ) : GG p l e R s m args below meth c cells slots Q D X ad nL pc ls st σ := hB J hJ h
theorem g_wl5 {f : Int → Int → Int → Int → Int → (Int → Int → Int → Int → Int → Prop) → Prop} (LL : Int → Int → Int → Int → Int → List (Nat × Value)) {ya yb yc yd ye : Int} (h : ∃ n, wl5 f n ya yb yc yd ye)
    (hs : ∀ (ya yb yc yd ye : Int) (ag : Int → Int → Int → Int → Int → Prop), (∀ (ya1 yb1 yc1 yd1 ye1 : Int) , ag ya1 yb1 yc1 yd1 ye1 → GG p l e R s m args below meth c cells slots Q D X ad nL pc (LL ya1 yb1 yc1 yd1 ye1) [] σ) → f ya yb yc yd ye ag → GG p l e R s m args below meth c cells slots Q D X ad nL pc (LL ya yb yc yd ye) [] σ) : GG p l e R s m args below meth c cells slots Q D X ad nL pc (LL ya yb yc yd ye) [] σ :=
  wl5_run (P := fun ya yb yc yd ye => GG p l e R s m args below meth c cells slots Q D X ad nL pc (LL ya yb yc yd ye) [] σ) hs h
theorem g_wj5 {J : Int → Int → Int → Int → Int → Prop} {B : (Int → Int → Int → Int → Int → Prop) → Prop} (pcJ cJ sJ : Nat) (LL : Int → Int → Int → Int → Int → List (Nat × Value)) (SS : Int → Int → Int → Int → Int → List Value) (h : wj5 J B) (hJ : ∀ (ya yb yc yd ye : Int) , J ya yb yc yd ye → GG p l e R s m args below meth c cJ sJ Q D X ad nL pcJ (LL ya yb yc yd ye) (SS ya yb yc yd ye) σ)
    (hB : ∀ J1 : Int → Int → Int → Int → Int → Prop, (∀ (ya yb yc yd ye : Int) , J1 ya yb yc yd ye → GG p l e R s m args below meth c cJ sJ Q D X ad nL pcJ (LL ya yb yc yd ye) (SS ya yb yc yd ye) σ) → B J1 → GG p l e R s m args below meth c cells slots Q D X ad nL pc ls st σ) : GG p l e R s m args below meth c cells slots Q D X ad nL pc ls st σ := hB J hJ h
theorem g_wl5s {f : Int → Int → Int → Int → Int → St → (Int → Int → Int → Int → Int → St → Prop) → Prop} (LL : Int → Int → Int → Int → Int → List (Nat × Value)) {ya yb yc yd ye : Int} {τ : St} (h : ∃ n, wl5s f n ya yb yc yd ye τ)
    (hs : ∀ (ya yb yc yd ye : Int) (τ : St) (ag : Int → Int → Int → Int → Int → St → Prop), (∀ (ya1 yb1 yc1 yd1 ye1 : Int) (τ1 : St) , ag ya1 yb1 yc1 yd1 ye1 τ1 → GG p l e R s m args below meth c cells slots Q D X ad nL pc (LL ya1 yb1 yc1 yd1 ye1) [] τ1) → f ya yb yc yd ye τ ag → GG p l e R s m args below meth c cells slots Q D X ad nL pc (LL ya yb yc yd ye) [] τ) : GG p l e R s m args below meth c cells slots Q D X ad nL pc (LL ya yb yc yd ye) [] τ :=
  wl5s_run (P := fun ya yb yc yd ye τ => GG p l e R s m args below meth c cells slots Q D X ad nL pc (LL ya yb yc yd ye) [] τ) hs h
theorem g_wb5s {f : Int → Int → Int → Int → Int → St → (Int → Int → Int → Int → Int → St → Prop) → Prop} (B mc ms Tc Ts : Nat) (LL : Int → Int → Int → Int → Int → List (Nat × Value)) {ya yb yc yd ye : Int} {τ : St} (h : ∃ n, n ≤ B ∧ wl5s f n ya yb yc yd ye τ) (hTc : B * mc ≤ Tc) (hTs : B * ms ≤ Ts)
    (hs : ∀ (ya yb yc yd ye : Int) (τ : St) (ag : Int → Int → Int → Int → Int → St → Prop) (c9 s9 : Nat), c9 + mc ≤ cells + Tc → s9 + ms ≤ slots + Ts → (∀ (ya1 yb1 yc1 yd1 ye1 : Int) (τ1 : St) , ag ya1 yb1 yc1 yd1 ye1 τ1 → GG p l e R s m args below meth c (c9 + mc) (s9 + ms) Q D X ad nL pc (LL ya1 yb1 yc1 yd1 ye1) [] τ1) → f ya yb yc yd ye τ ag → GG p l e R s m args below meth c c9 s9 Q D X ad nL pc (LL ya yb yc yd ye) [] τ) : GG p l e R s m args below meth c cells slots Q D X ad nL pc (LL ya yb yc yd ye) [] τ := by
  obtain ⟨n, hn, h⟩ := h
  have key : ∀ n : Nat, n ≤ B → ∀ (ya yb yc yd ye : Int) (τ : St) , wl5s f n ya yb yc yd ye τ → GG p l e R s m args below meth c (cells + (B - n) * mc) (slots + (B - n) * ms) Q D X ad nL pc (LL ya yb yc yd ye) [] τ := by
    intro n
    induction n with
    | zero => intro _ ya yb yc yd ye τ h; exact h.elim
    | succ n ih =>
      intro hn ya yb yc yd ye τ h
      have e : B - n = (B - (n + 1)) + 1 := by omega
      have e1 : (B - n) * mc = (B - (n + 1)) * mc + mc := by rw [e, Nat.succ_mul]
      have e2 : (B - n) * ms = (B - (n + 1)) * ms + ms := by rw [e, Nat.succ_mul]
      have e3 := Nat.mul_le_mul_right mc (Nat.sub_le B n)
      have e4 := Nat.mul_le_mul_right ms (Nat.sub_le B n)
      refine hs ya yb yc yd ye τ (wl5s f n) _ _ (by omega) (by omega) (fun ya1 yb1 yc1 yd1 ye1 τ1 h1 => ?_) h
      have h2 := ih (by omega) ya1 yb1 yc1 yd1 ye1 τ1 h1
      rw [e1, e2, ← Nat.add_assoc, ← Nat.add_assoc] at h2
      exact h2
  exact a_wid _ _ (by omega) (by omega) (key n hn ya yb yc yd ye τ h)
theorem g_wj5s {J : Int → Int → Int → Int → Int → St → Prop} {B : (Int → Int → Int → Int → Int → St → Prop) → Prop} (pcJ cJ sJ : Nat) (LL : Int → Int → Int → Int → Int → List (Nat × Value)) (SS : Int → Int → Int → Int → Int → List Value) (h : wj5s J B) (hJ : ∀ (ya yb yc yd ye : Int) (τ : St) , J ya yb yc yd ye τ → GG p l e R s m args below meth c cJ sJ Q D X ad nL pcJ (LL ya yb yc yd ye) (SS ya yb yc yd ye) τ)
    (hB : ∀ J1 : Int → Int → Int → Int → Int → St → Prop, (∀ (ya yb yc yd ye : Int) (τ : St) , J1 ya yb yc yd ye τ → GG p l e R s m args below meth c cJ sJ Q D X ad nL pcJ (LL ya yb yc yd ye) (SS ya yb yc yd ye) τ) → B J1 → GG p l e R s m args below meth c cells slots Q D X ad nL pc ls st σ) : GG p l e R s m args below meth c cells slots Q D X ad nL pc ls st σ := hB J hJ h
theorem g_wl6 {f : Int → Int → Int → Int → Int → Int → (Int → Int → Int → Int → Int → Int → Prop) → Prop} (LL : Int → Int → Int → Int → Int → Int → List (Nat × Value)) {ya yb yc yd ye yf : Int} (h : ∃ n, wl6 f n ya yb yc yd ye yf)
    (hs : ∀ (ya yb yc yd ye yf : Int) (ag : Int → Int → Int → Int → Int → Int → Prop), (∀ (ya1 yb1 yc1 yd1 ye1 yf1 : Int) , ag ya1 yb1 yc1 yd1 ye1 yf1 → GG p l e R s m args below meth c cells slots Q D X ad nL pc (LL ya1 yb1 yc1 yd1 ye1 yf1) [] σ) → f ya yb yc yd ye yf ag → GG p l e R s m args below meth c cells slots Q D X ad nL pc (LL ya yb yc yd ye yf) [] σ) : GG p l e R s m args below meth c cells slots Q D X ad nL pc (LL ya yb yc yd ye yf) [] σ :=
  wl6_run (P := fun ya yb yc yd ye yf => GG p l e R s m args below meth c cells slots Q D X ad nL pc (LL ya yb yc yd ye yf) [] σ) hs h
theorem g_wj6 {J : Int → Int → Int → Int → Int → Int → Prop} {B : (Int → Int → Int → Int → Int → Int → Prop) → Prop} (pcJ cJ sJ : Nat) (LL : Int → Int → Int → Int → Int → Int → List (Nat × Value)) (SS : Int → Int → Int → Int → Int → Int → List Value) (h : wj6 J B) (hJ : ∀ (ya yb yc yd ye yf : Int) , J ya yb yc yd ye yf → GG p l e R s m args below meth c cJ sJ Q D X ad nL pcJ (LL ya yb yc yd ye yf) (SS ya yb yc yd ye yf) σ)
    (hB : ∀ J1 : Int → Int → Int → Int → Int → Int → Prop, (∀ (ya yb yc yd ye yf : Int) , J1 ya yb yc yd ye yf → GG p l e R s m args below meth c cJ sJ Q D X ad nL pcJ (LL ya yb yc yd ye yf) (SS ya yb yc yd ye yf) σ) → B J1 → GG p l e R s m args below meth c cells slots Q D X ad nL pc ls st σ) : GG p l e R s m args below meth c cells slots Q D X ad nL pc ls st σ := hB J hJ h
theorem g_wl6s {f : Int → Int → Int → Int → Int → Int → St → (Int → Int → Int → Int → Int → Int → St → Prop) → Prop} (LL : Int → Int → Int → Int → Int → Int → List (Nat × Value)) {ya yb yc yd ye yf : Int} {τ : St} (h : ∃ n, wl6s f n ya yb yc yd ye yf τ)
    (hs : ∀ (ya yb yc yd ye yf : Int) (τ : St) (ag : Int → Int → Int → Int → Int → Int → St → Prop), (∀ (ya1 yb1 yc1 yd1 ye1 yf1 : Int) (τ1 : St) , ag ya1 yb1 yc1 yd1 ye1 yf1 τ1 → GG p l e R s m args below meth c cells slots Q D X ad nL pc (LL ya1 yb1 yc1 yd1 ye1 yf1) [] τ1) → f ya yb yc yd ye yf τ ag → GG p l e R s m args below meth c cells slots Q D X ad nL pc (LL ya yb yc yd ye yf) [] τ) : GG p l e R s m args below meth c cells slots Q D X ad nL pc (LL ya yb yc yd ye yf) [] τ :=
  wl6s_run (P := fun ya yb yc yd ye yf τ => GG p l e R s m args below meth c cells slots Q D X ad nL pc (LL ya yb yc yd ye yf) [] τ) hs h
theorem g_wb6s {f : Int → Int → Int → Int → Int → Int → St → (Int → Int → Int → Int → Int → Int → St → Prop) → Prop} (B mc ms Tc Ts : Nat) (LL : Int → Int → Int → Int → Int → Int → List (Nat × Value)) {ya yb yc yd ye yf : Int} {τ : St} (h : ∃ n, n ≤ B ∧ wl6s f n ya yb yc yd ye yf τ) (hTc : B * mc ≤ Tc) (hTs : B * ms ≤ Ts)
    (hs : ∀ (ya yb yc yd ye yf : Int) (τ : St) (ag : Int → Int → Int → Int → Int → Int → St → Prop) (c9 s9 : Nat), c9 + mc ≤ cells + Tc → s9 + ms ≤ slots + Ts → (∀ (ya1 yb1 yc1 yd1 ye1 yf1 : Int) (τ1 : St) , ag ya1 yb1 yc1 yd1 ye1 yf1 τ1 → GG p l e R s m args below meth c (c9 + mc) (s9 + ms) Q D X ad nL pc (LL ya1 yb1 yc1 yd1 ye1 yf1) [] τ1) → f ya yb yc yd ye yf τ ag → GG p l e R s m args below meth c c9 s9 Q D X ad nL pc (LL ya yb yc yd ye yf) [] τ) : GG p l e R s m args below meth c cells slots Q D X ad nL pc (LL ya yb yc yd ye yf) [] τ := by
  obtain ⟨n, hn, h⟩ := h
  have key : ∀ n : Nat, n ≤ B → ∀ (ya yb yc yd ye yf : Int) (τ : St) , wl6s f n ya yb yc yd ye yf τ → GG p l e R s m args below meth c (cells + (B - n) * mc) (slots + (B - n) * ms) Q D X ad nL pc (LL ya yb yc yd ye yf) [] τ := by
    intro n
    induction n with
    | zero => intro _ ya yb yc yd ye yf τ h; exact h.elim
    | succ n ih =>
      intro hn ya yb yc yd ye yf τ h
      have e : B - n = (B - (n + 1)) + 1 := by omega
      have e1 : (B - n) * mc = (B - (n + 1)) * mc + mc := by rw [e, Nat.succ_mul]
      have e2 : (B - n) * ms = (B - (n + 1)) * ms + ms := by rw [e, Nat.succ_mul]
      have e3 := Nat.mul_le_mul_right mc (Nat.sub_le B n)
      have e4 := Nat.mul_le_mul_right ms (Nat.sub_le B n)
      refine hs ya yb yc yd ye yf τ (wl6s f n) _ _ (by omega) (by omega) (fun ya1 yb1 yc1 yd1 ye1 yf1 τ1 h1 => ?_) h
      have h2 := ih (by omega) ya1 yb1 yc1 yd1 ye1 yf1 τ1 h1
      rw [e1, e2, ← Nat.add_assoc, ← Nat.add_assoc] at h2
      exact h2
  exact a_wid _ _ (by omega) (by omega) (key n hn ya yb yc yd ye yf τ h)
theorem g_wj6s {J : Int → Int → Int → Int → Int → Int → St → Prop} {B : (Int → Int → Int → Int → Int → Int → St → Prop) → Prop} (pcJ cJ sJ : Nat) (LL : Int → Int → Int → Int → Int → Int → List (Nat × Value)) (SS : Int → Int → Int → Int → Int → Int → List Value) (h : wj6s J B) (hJ : ∀ (ya yb yc yd ye yf : Int) (τ : St) , J ya yb yc yd ye yf τ → GG p l e R s m args below meth c cJ sJ Q D X ad nL pcJ (LL ya yb yc yd ye yf) (SS ya yb yc yd ye yf) τ)
    (hB : ∀ J1 : Int → Int → Int → Int → Int → Int → St → Prop, (∀ (ya yb yc yd ye yf : Int) (τ : St) , J1 ya yb yc yd ye yf τ → GG p l e R s m args below meth c cJ sJ Q D X ad nL pcJ (LL ya yb yc yd ye yf) (SS ya yb yc yd ye yf) τ) → B J1 → GG p l e R s m args below meth c cells slots Q D X ad nL pc ls st σ) : GG p l e R s m args below meth c cells slots Q D X ad nL pc ls st σ := hB J hJ h
theorem g_wl7 {f : Int → Int → Int → Int → Int → Int → Int → (Int → Int → Int → Int → Int → Int → Int → Prop) → Prop} (LL : Int → Int → Int → Int → Int → Int → Int → List (Nat × Value)) {ya yb yc yd ye yf yg : Int} (h : ∃ n, wl7 f n ya yb yc yd ye yf yg)
    (hs : ∀ (ya yb yc yd ye yf yg : Int) (ag : Int → Int → Int → Int → Int → Int → Int → Prop), (∀ (ya1 yb1 yc1 yd1 ye1 yf1 yg1 : Int) , ag ya1 yb1 yc1 yd1 ye1 yf1 yg1 → GG p l e R s m args below meth c cells slots Q D X ad nL pc (LL ya1 yb1 yc1 yd1 ye1 yf1 yg1) [] σ) → f ya yb yc yd ye yf yg ag → GG p l e R s m args below meth c cells slots Q D X ad nL pc (LL ya yb yc yd ye yf yg) [] σ) : GG p l e R s m args below meth c cells slots Q D X ad nL pc (LL ya yb yc yd ye yf yg) [] σ :=
  wl7_run (P := fun ya yb yc yd ye yf yg => GG p l e R s m args below meth c cells slots Q D X ad nL pc (LL ya yb yc yd ye yf yg) [] σ) hs h
theorem g_wj7 {J : Int → Int → Int → Int → Int → Int → Int → Prop} {B : (Int → Int → Int → Int → Int → Int → Int → Prop) → Prop} (pcJ cJ sJ : Nat) (LL : Int → Int → Int → Int → Int → Int → Int → List (Nat × Value)) (SS : Int → Int → Int → Int → Int → Int → Int → List Value) (h : wj7 J B) (hJ : ∀ (ya yb yc yd ye yf yg : Int) , J ya yb yc yd ye yf yg → GG p l e R s m args below meth c cJ sJ Q D X ad nL pcJ (LL ya yb yc yd ye yf yg) (SS ya yb yc yd ye yf yg) σ)
    (hB : ∀ J1 : Int → Int → Int → Int → Int → Int → Int → Prop, (∀ (ya yb yc yd ye yf yg : Int) , J1 ya yb yc yd ye yf yg → GG p l e R s m args below meth c cJ sJ Q D X ad nL pcJ (LL ya yb yc yd ye yf yg) (SS ya yb yc yd ye yf yg) σ) → B J1 → GG p l e R s m args below meth c cells slots Q D X ad nL pc ls st σ) : GG p l e R s m args below meth c cells slots Q D X ad nL pc ls st σ := hB J hJ h
theorem g_wl7s {f : Int → Int → Int → Int → Int → Int → Int → St → (Int → Int → Int → Int → Int → Int → Int → St → Prop) → Prop} (LL : Int → Int → Int → Int → Int → Int → Int → List (Nat × Value)) {ya yb yc yd ye yf yg : Int} {τ : St} (h : ∃ n, wl7s f n ya yb yc yd ye yf yg τ)
    (hs : ∀ (ya yb yc yd ye yf yg : Int) (τ : St) (ag : Int → Int → Int → Int → Int → Int → Int → St → Prop), (∀ (ya1 yb1 yc1 yd1 ye1 yf1 yg1 : Int) (τ1 : St) , ag ya1 yb1 yc1 yd1 ye1 yf1 yg1 τ1 → GG p l e R s m args below meth c cells slots Q D X ad nL pc (LL ya1 yb1 yc1 yd1 ye1 yf1 yg1) [] τ1) → f ya yb yc yd ye yf yg τ ag → GG p l e R s m args below meth c cells slots Q D X ad nL pc (LL ya yb yc yd ye yf yg) [] τ) : GG p l e R s m args below meth c cells slots Q D X ad nL pc (LL ya yb yc yd ye yf yg) [] τ :=
  wl7s_run (P := fun ya yb yc yd ye yf yg τ => GG p l e R s m args below meth c cells slots Q D X ad nL pc (LL ya yb yc yd ye yf yg) [] τ) hs h
theorem g_wj7s {J : Int → Int → Int → Int → Int → Int → Int → St → Prop} {B : (Int → Int → Int → Int → Int → Int → Int → St → Prop) → Prop} (pcJ cJ sJ : Nat) (LL : Int → Int → Int → Int → Int → Int → Int → List (Nat × Value)) (SS : Int → Int → Int → Int → Int → Int → Int → List Value) (h : wj7s J B) (hJ : ∀ (ya yb yc yd ye yf yg : Int) (τ : St) , J ya yb yc yd ye yf yg τ → GG p l e R s m args below meth c cJ sJ Q D X ad nL pcJ (LL ya yb yc yd ye yf yg) (SS ya yb yc yd ye yf yg) τ)
    (hB : ∀ J1 : Int → Int → Int → Int → Int → Int → Int → St → Prop, (∀ (ya yb yc yd ye yf yg : Int) (τ : St) , J1 ya yb yc yd ye yf yg τ → GG p l e R s m args below meth c cJ sJ Q D X ad nL pcJ (LL ya yb yc yd ye yf yg) (SS ya yb yc yd ye yf yg) τ) → B J1 → GG p l e R s m args below meth c cells slots Q D X ad nL pc ls st σ) : GG p l e R s m args below meth c cells slots Q D X ad nL pc ls st σ := hB J hJ h
theorem g_wl8 {f : Int → Int → Int → Int → Int → Int → Int → Int → (Int → Int → Int → Int → Int → Int → Int → Int → Prop) → Prop} (LL : Int → Int → Int → Int → Int → Int → Int → Int → List (Nat × Value)) {ya yb yc yd ye yf yg yh : Int} (h : ∃ n, wl8 f n ya yb yc yd ye yf yg yh)
    (hs : ∀ (ya yb yc yd ye yf yg yh : Int) (ag : Int → Int → Int → Int → Int → Int → Int → Int → Prop), (∀ (ya1 yb1 yc1 yd1 ye1 yf1 yg1 yh1 : Int) , ag ya1 yb1 yc1 yd1 ye1 yf1 yg1 yh1 → GG p l e R s m args below meth c cells slots Q D X ad nL pc (LL ya1 yb1 yc1 yd1 ye1 yf1 yg1 yh1) [] σ) → f ya yb yc yd ye yf yg yh ag → GG p l e R s m args below meth c cells slots Q D X ad nL pc (LL ya yb yc yd ye yf yg yh) [] σ) : GG p l e R s m args below meth c cells slots Q D X ad nL pc (LL ya yb yc yd ye yf yg yh) [] σ :=
  wl8_run (P := fun ya yb yc yd ye yf yg yh => GG p l e R s m args below meth c cells slots Q D X ad nL pc (LL ya yb yc yd ye yf yg yh) [] σ) hs h
theorem g_wj8 {J : Int → Int → Int → Int → Int → Int → Int → Int → Prop} {B : (Int → Int → Int → Int → Int → Int → Int → Int → Prop) → Prop} (pcJ cJ sJ : Nat) (LL : Int → Int → Int → Int → Int → Int → Int → Int → List (Nat × Value)) (SS : Int → Int → Int → Int → Int → Int → Int → Int → List Value) (h : wj8 J B) (hJ : ∀ (ya yb yc yd ye yf yg yh : Int) , J ya yb yc yd ye yf yg yh → GG p l e R s m args below meth c cJ sJ Q D X ad nL pcJ (LL ya yb yc yd ye yf yg yh) (SS ya yb yc yd ye yf yg yh) σ)
    (hB : ∀ J1 : Int → Int → Int → Int → Int → Int → Int → Int → Prop, (∀ (ya yb yc yd ye yf yg yh : Int) , J1 ya yb yc yd ye yf yg yh → GG p l e R s m args below meth c cJ sJ Q D X ad nL pcJ (LL ya yb yc yd ye yf yg yh) (SS ya yb yc yd ye yf yg yh) σ) → B J1 → GG p l e R s m args below meth c cells slots Q D X ad nL pc ls st σ) : GG p l e R s m args below meth c cells slots Q D X ad nL pc ls st σ := hB J hJ h
theorem g_wl8s {f : Int → Int → Int → Int → Int → Int → Int → Int → St → (Int → Int → Int → Int → Int → Int → Int → Int → St → Prop) → Prop} (LL : Int → Int → Int → Int → Int → Int → Int → Int → List (Nat × Value)) {ya yb yc yd ye yf yg yh : Int} {τ : St} (h : ∃ n, wl8s f n ya yb yc yd ye yf yg yh τ)
    (hs : ∀ (ya yb yc yd ye yf yg yh : Int) (τ : St) (ag : Int → Int → Int → Int → Int → Int → Int → Int → St → Prop), (∀ (ya1 yb1 yc1 yd1 ye1 yf1 yg1 yh1 : Int) (τ1 : St) , ag ya1 yb1 yc1 yd1 ye1 yf1 yg1 yh1 τ1 → GG p l e R s m args below meth c cells slots Q D X ad nL pc (LL ya1 yb1 yc1 yd1 ye1 yf1 yg1 yh1) [] τ1) → f ya yb yc yd ye yf yg yh τ ag → GG p l e R s m args below meth c cells slots Q D X ad nL pc (LL ya yb yc yd ye yf yg yh) [] τ) : GG p l e R s m args below meth c cells slots Q D X ad nL pc (LL ya yb yc yd ye yf yg yh) [] τ :=
  wl8s_run (P := fun ya yb yc yd ye yf yg yh τ => GG p l e R s m args below meth c cells slots Q D X ad nL pc (LL ya yb yc yd ye yf yg yh) [] τ) hs h
theorem g_wj8s {J : Int → Int → Int → Int → Int → Int → Int → Int → St → Prop} {B : (Int → Int → Int → Int → Int → Int → Int → Int → St → Prop) → Prop} (pcJ cJ sJ : Nat) (LL : Int → Int → Int → Int → Int → Int → Int → Int → List (Nat × Value)) (SS : Int → Int → Int → Int → Int → Int → Int → Int → List Value) (h : wj8s J B) (hJ : ∀ (ya yb yc yd ye yf yg yh : Int) (τ : St) , J ya yb yc yd ye yf yg yh τ → GG p l e R s m args below meth c cJ sJ Q D X ad nL pcJ (LL ya yb yc yd ye yf yg yh) (SS ya yb yc yd ye yf yg yh) τ)
    (hB : ∀ J1 : Int → Int → Int → Int → Int → Int → Int → Int → St → Prop, (∀ (ya yb yc yd ye yf yg yh : Int) (τ : St) , J1 ya yb yc yd ye yf yg yh τ → GG p l e R s m args below meth c cJ sJ Q D X ad nL pcJ (LL ya yb yc yd ye yf yg yh) (SS ya yb yc yd ye yf yg yh) τ) → B J1 → GG p l e R s m args below meth c cells slots Q D X ad nL pc ls st σ) : GG p l e R s m args below meth c cells slots Q D X ad nL pc ls st σ := hB J hJ h
theorem wd_pc {D : va_G} {X : XI} {ad : Nat → Nat} {σ : St} {sz : Nat} {av : List Value} : FrameBlind (va_Pc av (WD D X ad σ sz)) := by
  rintro a U g mk ⟨h1, h2, h3, h4, h5⟩
  exact ⟨h1, h2, h3, va_K.moved (u := U) (U := U.calling g mk a) (Vm.Alike.refl U.vm) h4, StF.go (U := U.calling g mk a) (State.WarmedH.refl U) h5 (fun _ _ _ => rfl) (fun _ h => h)⟩
theorem wd_at (a : AM p l e s m args meth c own Ts cc nL D X ad) {H : Heap} {locs : List Loc} (hP : va_P D vwCl (wsO X ad σ) H) (hS : va_S (AA ad s.heap.size) s.heap H locs) (U : State) (hU : U.heap = H) (hW : s.WarmedH U.vm) : WD D X ad σ H.size U :=
  ⟨by rw [hU], by rw [hU]; exact hP, va_K.moved hW.alike a.2.1, by rw [hU]; exact StF.go hW a.2.2.2.1 hS.2.1 (fun q h => AA_sub hS.1 h)⟩
theorem a_cvi (a : AM p l e s m args meth c own Ts cc nL D X ad) {y : MethodName} {bytes : ByteArray} {maxL n ix mc ms : Nat} {ret : Option FieldType} {ws : List Cond} {rm : Room} {As rest : List Value} {K : Int → St → Prop} {b ci : Nat} {C : String} {T : u_T} {N : Nat} (hb : tyc b (ci + 4, 0)) (hc : vwCl[ci]? = some (C, T, N)) (hM : ∀ sz : Nat, Met l y ws rm (va_Pc (Value.ref (ad b) :: As) (WD D X ad σ sz)) (QI D X ad sz K) mc ms (AA ad sz)) (cw : CallW R s args own C ix y bytes maxL ret ws rm mc ms n) (hn : As.length = n) (hst : st = As.reverse ++ Value.ref (ad b) :: rest) (hcat : (rest.map fun v => v.category).sum ≤ 8) (hf : cells + mc ≤ R.cells ∧ slots + ms ≤ R.slots) (hdg : decode cc pc = .ok (.invokevirtual ix, 3))
    (k : ∀ (r : Int) (σ1 : St), K r σ1 → GG p l e R s m args below meth c (cells + mc) (slots + ms) Q D X ad nL (pc + 3) ls (vI r :: rest) σ1) : GG p l e R s m args below meth c cells slots Q D X ad nL pc ls st σ := by
  intro H locs la hP hS hl
  subst hst
  have hA : ∀ q, q < H.size → AA ad H.size q → AA ad s.heap.size q := fun q _ h => AA_sub hS.1 h
  have hf1 : ∀ q, AA ad H.size q → AA ad s.heap.size q := fun q h => AA_sub hS.1 h
  exact va_calli (va_runV (As := As) (rest := rest) a.1 (hM H.size) cw ⟨wd_pc, by have h1 := va_recv a.2.1 hP hc (q0 := b) (by rw [ws_get (tw a.2.2.1 hb).1, celO hb.2]); exact h1, fun U hU hW => ⟨rfl, wd_at a hP hS U hU hW⟩⟩ rfl hn hl.1 rfl (lv_room hcat) hdg hf) hS hA hf1 (fun r u t H1 locs1 ht hvm hw hB hz hk hS1 => by
    obtain ⟨rfl, hw⟩ := hw
    exact k u.1 u.2 hw H1 locs1 la (by rw [← ht]; exact hB) hS1 hl)
theorem a_xvi (a : AM p l e s m args meth c own Ts cc nL D X ad) {y : MethodName} {bytes : ByteArray} {maxL n ix mc ms : Nat} {ret : Option FieldType} {ws : List Cond} {rm : Room} {As rest : List Value} {K : Int → St → Prop} {Kx : Nat → St → Prop} {b ci : Nat} {C : String} {T : u_T} {N : Nat} (hb : tyc b (ci + 4, 0)) (hc : vwCl[ci]? = some (C, T, N)) (hM : ∀ sz : Nat, vx_Met l y ws rm (va_Pc (Value.ref (ad b) :: As) (WD D X ad σ sz)) (QI D X ad sz K) (XX D X ad sz Kx) mc ms (AA ad sz)) (cw : CallW R s args own C ix y bytes maxL ret ws rm mc ms n) (hn : As.length = n) (hst : st = As.reverse ++ Value.ref (ad b) :: rest) (hcat : (rest.map fun v => v.category).sum ≤ 8) (hf : cells + mc ≤ R.cells ∧ slots + ms ≤ R.slots) (hdg : decode cc pc = .ok (.invokevirtual ix, 3))
    (kx : ∀ (E : String) (cx : Nat) (ce : Cell) (q9 : Addr) (σ1 : St) (H1 : Heap) (locs1 : List Loc) (la : Array Slot), Kx cx σ1 → E = eNm cx → va_P D vwCl (wsO X ad σ1) H1 → va_S (AA ad s.heap.size) s.heap H1 locs1 → lv_has la nL ls → H1[q9]? = some ce → ce.vm = .none → s.vm.findClass E = some ce.cls → vx_W p l e R s m args below meth c H1 locs1 (cells + mc) (slots + ms) Q (F0 m pc la rest) q9)
    (k : ∀ (r : Int) (σ1 : St), K r σ1 → GG p l e R s m args below meth c (cells + mc) (slots + ms) Q D X ad nL (pc + 3) ls (vI r :: rest) σ1) : GG p l e R s m args below meth c cells slots Q D X ad nL pc ls st σ := by
  intro H locs la hP hS hl
  subst hst
  have hA : ∀ q, q < H.size → AA ad H.size q → AA ad s.heap.size q := fun q _ h => AA_sub hS.1 h
  have hf1 : ∀ q, AA ad H.size q → AA ad s.heap.size q := fun q h => AA_sub hS.1 h
  exact vx_calli (vx_runV (As := As) (rest := rest) a.1 (hM H.size) cw ⟨wd_pc, by have h1 := va_recv a.2.1 hP hc (q0 := b) (by rw [ws_get (tw a.2.2.1 hb).1, celO hb.2]); exact h1, fun U hU hW => ⟨rfl, wd_at a hP hS U hU hW⟩⟩ rfl hn hl.1 rfl (lv_room hcat) hdg hf) hS hA hf1 hA (fun E ce q9 u t H1 locs1 ht hvm hw hB hz hk hS1 h1 h2 h3 => kx E u.1 ce q9 u.2 H1 locs1 la hw hB.1 (by rw [← ht]; exact hB.2) hS1 hl h1 h2 h3) (fun r u t H1 locs1 ht hvm hw hB hz hk hS1 => by
    obtain ⟨rfl, hw⟩ := hw
    exact k u.1 u.2 hw H1 locs1 la (by rw [← ht]; exact hB) hS1 hl)
theorem a_cvj (a : AM p l e s m args meth c own Ts cc nL D X ad) {y : MethodName} {bytes : ByteArray} {maxL n ix mc ms : Nat} {ret : Option FieldType} {ws : List Cond} {rm : Room} {As rest : List Value} {K : Int → St → Prop} {b ci : Nat} {C : String} {T : u_T} {N : Nat} (hb : tyc b (ci + 4, 0)) (hc : vwCl[ci]? = some (C, T, N)) (hM : ∀ sz : Nat, Met l y ws rm (va_Pc (Value.ref (ad b) :: As) (WD D X ad σ sz)) (QJ D X ad sz K) mc ms (AA ad sz)) (cw : CallW R s args own C ix y bytes maxL ret ws rm mc ms n) (hn : As.length = n) (hst : st = As.reverse ++ Value.ref (ad b) :: rest) (hcat : (rest.map fun v => v.category).sum ≤ 8) (hf : cells + mc ≤ R.cells ∧ slots + ms ≤ R.slots) (hdg : decode cc pc = .ok (.invokevirtual ix, 3))
    (k : ∀ (r : Int) (σ1 : St), K r σ1 → GG p l e R s m args below meth c (cells + mc) (slots + ms) Q D X ad nL (pc + 3) ls (vJ r :: rest) σ1) : GG p l e R s m args below meth c cells slots Q D X ad nL pc ls st σ := by
  intro H locs la hP hS hl
  subst hst
  have hA : ∀ q, q < H.size → AA ad H.size q → AA ad s.heap.size q := fun q _ h => AA_sub hS.1 h
  have hf1 : ∀ q, AA ad H.size q → AA ad s.heap.size q := fun q h => AA_sub hS.1 h
  exact va_calll (va_runV (As := As) (rest := rest) a.1 (hM H.size) cw ⟨wd_pc, by have h1 := va_recv a.2.1 hP hc (q0 := b) (by rw [ws_get (tw a.2.2.1 hb).1, celO hb.2]); exact h1, fun U hU hW => ⟨rfl, wd_at a hP hS U hU hW⟩⟩ rfl hn hl.1 rfl (lv_room hcat) hdg hf) hS hA hf1 (fun r u t H1 locs1 ht hvm hw hB hz hk hS1 => by
    obtain ⟨rfl, hw⟩ := hw
    exact k u.1 u.2 hw H1 locs1 la (by rw [← ht]; exact hB) hS1 hl)
theorem a_xvj (a : AM p l e s m args meth c own Ts cc nL D X ad) {y : MethodName} {bytes : ByteArray} {maxL n ix mc ms : Nat} {ret : Option FieldType} {ws : List Cond} {rm : Room} {As rest : List Value} {K : Int → St → Prop} {Kx : Nat → St → Prop} {b ci : Nat} {C : String} {T : u_T} {N : Nat} (hb : tyc b (ci + 4, 0)) (hc : vwCl[ci]? = some (C, T, N)) (hM : ∀ sz : Nat, vx_Met l y ws rm (va_Pc (Value.ref (ad b) :: As) (WD D X ad σ sz)) (QJ D X ad sz K) (XX D X ad sz Kx) mc ms (AA ad sz)) (cw : CallW R s args own C ix y bytes maxL ret ws rm mc ms n) (hn : As.length = n) (hst : st = As.reverse ++ Value.ref (ad b) :: rest) (hcat : (rest.map fun v => v.category).sum ≤ 8) (hf : cells + mc ≤ R.cells ∧ slots + ms ≤ R.slots) (hdg : decode cc pc = .ok (.invokevirtual ix, 3))
    (kx : ∀ (E : String) (cx : Nat) (ce : Cell) (q9 : Addr) (σ1 : St) (H1 : Heap) (locs1 : List Loc) (la : Array Slot), Kx cx σ1 → E = eNm cx → va_P D vwCl (wsO X ad σ1) H1 → va_S (AA ad s.heap.size) s.heap H1 locs1 → lv_has la nL ls → H1[q9]? = some ce → ce.vm = .none → s.vm.findClass E = some ce.cls → vx_W p l e R s m args below meth c H1 locs1 (cells + mc) (slots + ms) Q (F0 m pc la rest) q9)
    (k : ∀ (r : Int) (σ1 : St), K r σ1 → GG p l e R s m args below meth c (cells + mc) (slots + ms) Q D X ad nL (pc + 3) ls (vJ r :: rest) σ1) : GG p l e R s m args below meth c cells slots Q D X ad nL pc ls st σ := by
  intro H locs la hP hS hl
  subst hst
  have hA : ∀ q, q < H.size → AA ad H.size q → AA ad s.heap.size q := fun q _ h => AA_sub hS.1 h
  have hf1 : ∀ q, AA ad H.size q → AA ad s.heap.size q := fun q h => AA_sub hS.1 h
  exact vx_calll (vx_runV (As := As) (rest := rest) a.1 (hM H.size) cw ⟨wd_pc, by have h1 := va_recv a.2.1 hP hc (q0 := b) (by rw [ws_get (tw a.2.2.1 hb).1, celO hb.2]); exact h1, fun U hU hW => ⟨rfl, wd_at a hP hS U hU hW⟩⟩ rfl hn hl.1 rfl (lv_room hcat) hdg hf) hS hA hf1 hA (fun E ce q9 u t H1 locs1 ht hvm hw hB hz hk hS1 h1 h2 h3 => kx E u.1 ce q9 u.2 H1 locs1 la hw hB.1 (by rw [← ht]; exact hB.2) hS1 hl h1 h2 h3) (fun r u t H1 locs1 ht hvm hw hB hz hk hS1 => by
    obtain ⟨rfl, hw⟩ := hw
    exact k u.1 u.2 hw H1 locs1 la (by rw [← ht]; exact hB) hS1 hl)
theorem a_cvd (a : AM p l e s m args meth c own Ts cc nL D X ad) {y : MethodName} {bytes : ByteArray} {maxL n ix mc ms : Nat} {ret : Option FieldType} {ws : List Cond} {rm : Room} {As rest : List Value} {K : UInt64 → St → Prop} {b ci : Nat} {C : String} {T : u_T} {N : Nat} (hb : tyc b (ci + 4, 0)) (hc : vwCl[ci]? = some (C, T, N)) (hM : ∀ sz : Nat, Met l y ws rm (va_Pc (Value.ref (ad b) :: As) (WD D X ad σ sz)) (QD D X ad sz K) mc ms (AA ad sz)) (cw : CallW R s args own C ix y bytes maxL ret ws rm mc ms n) (hn : As.length = n) (hst : st = As.reverse ++ Value.ref (ad b) :: rest) (hcat : (rest.map fun v => v.category).sum ≤ 8) (hf : cells + mc ≤ R.cells ∧ slots + ms ≤ R.slots) (hdg : decode cc pc = .ok (.invokevirtual ix, 3))
    (k : ∀ (r : UInt64) (σ1 : St), K r σ1 → GG p l e R s m args below meth c (cells + mc) (slots + ms) Q D X ad nL (pc + 3) ls (Value.double r :: rest) σ1) : GG p l e R s m args below meth c cells slots Q D X ad nL pc ls st σ := by
  intro H locs la hP hS hl
  subst hst
  have hA : ∀ q, q < H.size → AA ad H.size q → AA ad s.heap.size q := fun q _ h => AA_sub hS.1 h
  have hf1 : ∀ q, AA ad H.size q → AA ad s.heap.size q := fun q h => AA_sub hS.1 h
  exact va_calld (va_runV (As := As) (rest := rest) a.1 (hM H.size) cw ⟨wd_pc, by have h1 := va_recv a.2.1 hP hc (q0 := b) (by rw [ws_get (tw a.2.2.1 hb).1, celO hb.2]); exact h1, fun U hU hW => ⟨rfl, wd_at a hP hS U hU hW⟩⟩ rfl hn hl.1 rfl (lv_room hcat) hdg hf) hS hA hf1 (fun r u t H1 locs1 ht hvm hw hB hz hk hS1 => by
    obtain ⟨rfl, hw⟩ := hw
    exact k u.1 u.2 hw H1 locs1 la (by rw [← ht]; exact hB) hS1 hl)
theorem a_xvd (a : AM p l e s m args meth c own Ts cc nL D X ad) {y : MethodName} {bytes : ByteArray} {maxL n ix mc ms : Nat} {ret : Option FieldType} {ws : List Cond} {rm : Room} {As rest : List Value} {K : UInt64 → St → Prop} {Kx : Nat → St → Prop} {b ci : Nat} {C : String} {T : u_T} {N : Nat} (hb : tyc b (ci + 4, 0)) (hc : vwCl[ci]? = some (C, T, N)) (hM : ∀ sz : Nat, vx_Met l y ws rm (va_Pc (Value.ref (ad b) :: As) (WD D X ad σ sz)) (QD D X ad sz K) (XX D X ad sz Kx) mc ms (AA ad sz)) (cw : CallW R s args own C ix y bytes maxL ret ws rm mc ms n) (hn : As.length = n) (hst : st = As.reverse ++ Value.ref (ad b) :: rest) (hcat : (rest.map fun v => v.category).sum ≤ 8) (hf : cells + mc ≤ R.cells ∧ slots + ms ≤ R.slots) (hdg : decode cc pc = .ok (.invokevirtual ix, 3))
    (kx : ∀ (E : String) (cx : Nat) (ce : Cell) (q9 : Addr) (σ1 : St) (H1 : Heap) (locs1 : List Loc) (la : Array Slot), Kx cx σ1 → E = eNm cx → va_P D vwCl (wsO X ad σ1) H1 → va_S (AA ad s.heap.size) s.heap H1 locs1 → lv_has la nL ls → H1[q9]? = some ce → ce.vm = .none → s.vm.findClass E = some ce.cls → vx_W p l e R s m args below meth c H1 locs1 (cells + mc) (slots + ms) Q (F0 m pc la rest) q9)
    (k : ∀ (r : UInt64) (σ1 : St), K r σ1 → GG p l e R s m args below meth c (cells + mc) (slots + ms) Q D X ad nL (pc + 3) ls (Value.double r :: rest) σ1) : GG p l e R s m args below meth c cells slots Q D X ad nL pc ls st σ := by
  intro H locs la hP hS hl
  subst hst
  have hA : ∀ q, q < H.size → AA ad H.size q → AA ad s.heap.size q := fun q _ h => AA_sub hS.1 h
  have hf1 : ∀ q, AA ad H.size q → AA ad s.heap.size q := fun q h => AA_sub hS.1 h
  exact vx_calld (vx_runV (As := As) (rest := rest) a.1 (hM H.size) cw ⟨wd_pc, by have h1 := va_recv a.2.1 hP hc (q0 := b) (by rw [ws_get (tw a.2.2.1 hb).1, celO hb.2]); exact h1, fun U hU hW => ⟨rfl, wd_at a hP hS U hU hW⟩⟩ rfl hn hl.1 rfl (lv_room hcat) hdg hf) hS hA hf1 hA (fun E ce q9 u t H1 locs1 ht hvm hw hB hz hk hS1 h1 h2 h3 => kx E u.1 ce q9 u.2 H1 locs1 la hw hB.1 (by rw [← ht]; exact hB.2) hS1 hl h1 h2 h3) (fun r u t H1 locs1 ht hvm hw hB hz hk hS1 => by
    obtain ⟨rfl, hw⟩ := hw
    exact k u.1 u.2 hw H1 locs1 la (by rw [← ht]; exact hB) hS1 hl)
theorem a_cvv (a : AM p l e s m args meth c own Ts cc nL D X ad) {y : MethodName} {bytes : ByteArray} {maxL n ix mc ms : Nat} {ret : Option FieldType} {ws : List Cond} {rm : Room} {As rest : List Value} {K : St → Prop} {b ci : Nat} {C : String} {T : u_T} {N : Nat} (hb : tyc b (ci + 4, 0)) (hc : vwCl[ci]? = some (C, T, N)) (hM : ∀ sz : Nat, Met l y ws rm (va_Pc (Value.ref (ad b) :: As) (WD D X ad σ sz)) (QV D X ad sz K) mc ms (AA ad sz)) (cw : CallW R s args own C ix y bytes maxL ret ws rm mc ms n) (hn : As.length = n) (hst : st = As.reverse ++ Value.ref (ad b) :: rest) (hcat : (rest.map fun v => v.category).sum ≤ 8) (hf : cells + mc ≤ R.cells ∧ slots + ms ≤ R.slots) (hdg : decode cc pc = .ok (.invokevirtual ix, 3))
    (k : ∀ (σ1 : St), K σ1 → GG p l e R s m args below meth c (cells + mc) (slots + ms) Q D X ad nL (pc + 3) ls (rest) σ1) : GG p l e R s m args below meth c cells slots Q D X ad nL pc ls st σ := by
  intro H locs la hP hS hl
  subst hst
  have hA : ∀ q, q < H.size → AA ad H.size q → AA ad s.heap.size q := fun q _ h => AA_sub hS.1 h
  have hf1 : ∀ q, AA ad H.size q → AA ad s.heap.size q := fun q h => AA_sub hS.1 h
  exact va_callv (va_runV (As := As) (rest := rest) a.1 (hM H.size) cw ⟨wd_pc, by have h1 := va_recv a.2.1 hP hc (q0 := b) (by rw [ws_get (tw a.2.2.1 hb).1, celO hb.2]); exact h1, fun U hU hW => ⟨rfl, wd_at a hP hS U hU hW⟩⟩ rfl hn hl.1 rfl (lv_room hcat) hdg hf) hS hA hf1 (fun u t H1 locs1 ht hvm hw hB hz hk hS1 => k u hw H1 locs1 la (by rw [← ht]; exact hB) hS1 hl)
theorem a_xvv (a : AM p l e s m args meth c own Ts cc nL D X ad) {y : MethodName} {bytes : ByteArray} {maxL n ix mc ms : Nat} {ret : Option FieldType} {ws : List Cond} {rm : Room} {As rest : List Value} {K : St → Prop} {Kx : Nat → St → Prop} {b ci : Nat} {C : String} {T : u_T} {N : Nat} (hb : tyc b (ci + 4, 0)) (hc : vwCl[ci]? = some (C, T, N)) (hM : ∀ sz : Nat, vx_Met l y ws rm (va_Pc (Value.ref (ad b) :: As) (WD D X ad σ sz)) (QV D X ad sz K) (XX D X ad sz Kx) mc ms (AA ad sz)) (cw : CallW R s args own C ix y bytes maxL ret ws rm mc ms n) (hn : As.length = n) (hst : st = As.reverse ++ Value.ref (ad b) :: rest) (hcat : (rest.map fun v => v.category).sum ≤ 8) (hf : cells + mc ≤ R.cells ∧ slots + ms ≤ R.slots) (hdg : decode cc pc = .ok (.invokevirtual ix, 3))
    (kx : ∀ (E : String) (cx : Nat) (ce : Cell) (q9 : Addr) (σ1 : St) (H1 : Heap) (locs1 : List Loc) (la : Array Slot), Kx cx σ1 → E = eNm cx → va_P D vwCl (wsO X ad σ1) H1 → va_S (AA ad s.heap.size) s.heap H1 locs1 → lv_has la nL ls → H1[q9]? = some ce → ce.vm = .none → s.vm.findClass E = some ce.cls → vx_W p l e R s m args below meth c H1 locs1 (cells + mc) (slots + ms) Q (F0 m pc la rest) q9)
    (k : ∀ (σ1 : St), K σ1 → GG p l e R s m args below meth c (cells + mc) (slots + ms) Q D X ad nL (pc + 3) ls (rest) σ1) : GG p l e R s m args below meth c cells slots Q D X ad nL pc ls st σ := by
  intro H locs la hP hS hl
  subst hst
  have hA : ∀ q, q < H.size → AA ad H.size q → AA ad s.heap.size q := fun q _ h => AA_sub hS.1 h
  have hf1 : ∀ q, AA ad H.size q → AA ad s.heap.size q := fun q h => AA_sub hS.1 h
  exact vx_callv (vx_runV (As := As) (rest := rest) a.1 (hM H.size) cw ⟨wd_pc, by have h1 := va_recv a.2.1 hP hc (q0 := b) (by rw [ws_get (tw a.2.2.1 hb).1, celO hb.2]); exact h1, fun U hU hW => ⟨rfl, wd_at a hP hS U hU hW⟩⟩ rfl hn hl.1 rfl (lv_room hcat) hdg hf) hS hA hf1 hA (fun E ce q9 u t H1 locs1 ht hvm hw hB hz hk hS1 h1 h2 h3 => kx E u.1 ce q9 u.2 H1 locs1 la hw hB.1 (by rw [← ht]; exact hB.2) hS1 hl h1 h2 h3) (fun u t H1 locs1 ht hvm hw hB hz hk hS1 => k u hw H1 locs1 la (by rw [← ht]; exact hB) hS1 hl)
theorem a_csi (a : AM p l e s m args meth c own Ts cc nL D X ad) {y : MethodName} {bytes : ByteArray} {maxL n ix mc ms : Nat} {ret : Option FieldType} {ws : List Cond} {rm : Room} {As rest : List Value} {K : Int → St → Prop}  (hM : ∀ sz : Nat, Met l y ws rm (va_Pc As (WD D X ad σ sz)) (QI D X ad sz K) mc ms (AA ad sz)) (cw : CallB R s args own ix y bytes maxL ret ws rm mc ms n ∧ (Cond.static y).before args s = true) (hn : As.length = n) (hst : st = As.reverse ++ rest) (hcat : (rest.map fun v => v.category).sum ≤ 8) (hf : cells + mc ≤ R.cells ∧ slots + ms ≤ R.slots) (hdg : decode cc pc = .ok (.invokestatic ix, 3))
    (k : ∀ (r : Int) (σ1 : St), K r σ1 → GG p l e R s m args below meth c (cells + mc) (slots + ms) Q D X ad nL (pc + 3) ls (vI r :: rest) σ1) : GG p l e R s m args below meth c cells slots Q D X ad nL pc ls st σ := by
  intro H locs la hP hS hl
  subst hst
  have hA : ∀ q, q < H.size → AA ad H.size q → AA ad s.heap.size q := fun q _ h => AA_sub hS.1 h
  have hf1 : ∀ q, AA ad H.size q → AA ad s.heap.size q := fun q h => AA_sub hS.1 h
  exact va_calli (va_runS (As := As) (rest := rest) a.1 (hM H.size) cw ⟨wd_pc, fun U hU hW => ⟨rfl, wd_at a hP hS U hU hW⟩⟩ rfl hn hl.1 rfl (lv_room hcat) hdg hf) hS hA hf1 (fun r u t H1 locs1 ht hvm hw hB hz hk hS1 => by
    obtain ⟨rfl, hw⟩ := hw
    exact k u.1 u.2 hw H1 locs1 la (by rw [← ht]; exact hB) hS1 hl)
theorem a_xsi (a : AM p l e s m args meth c own Ts cc nL D X ad) {y : MethodName} {bytes : ByteArray} {maxL n ix mc ms : Nat} {ret : Option FieldType} {ws : List Cond} {rm : Room} {As rest : List Value} {K : Int → St → Prop} {Kx : Nat → St → Prop}  (hM : ∀ sz : Nat, vx_Met l y ws rm (va_Pc As (WD D X ad σ sz)) (QI D X ad sz K) (XX D X ad sz Kx) mc ms (AA ad sz)) (cw : CallB R s args own ix y bytes maxL ret ws rm mc ms n ∧ (Cond.static y).before args s = true) (hn : As.length = n) (hst : st = As.reverse ++ rest) (hcat : (rest.map fun v => v.category).sum ≤ 8) (hf : cells + mc ≤ R.cells ∧ slots + ms ≤ R.slots) (hdg : decode cc pc = .ok (.invokestatic ix, 3))
    (kx : ∀ (E : String) (cx : Nat) (ce : Cell) (q9 : Addr) (σ1 : St) (H1 : Heap) (locs1 : List Loc) (la : Array Slot), Kx cx σ1 → E = eNm cx → va_P D vwCl (wsO X ad σ1) H1 → va_S (AA ad s.heap.size) s.heap H1 locs1 → lv_has la nL ls → H1[q9]? = some ce → ce.vm = .none → s.vm.findClass E = some ce.cls → vx_W p l e R s m args below meth c H1 locs1 (cells + mc) (slots + ms) Q (F0 m pc la rest) q9)
    (k : ∀ (r : Int) (σ1 : St), K r σ1 → GG p l e R s m args below meth c (cells + mc) (slots + ms) Q D X ad nL (pc + 3) ls (vI r :: rest) σ1) : GG p l e R s m args below meth c cells slots Q D X ad nL pc ls st σ := by
  intro H locs la hP hS hl
  subst hst
  have hA : ∀ q, q < H.size → AA ad H.size q → AA ad s.heap.size q := fun q _ h => AA_sub hS.1 h
  have hf1 : ∀ q, AA ad H.size q → AA ad s.heap.size q := fun q h => AA_sub hS.1 h
  exact vx_calli (vx_runS (As := As) (rest := rest) a.1 (hM H.size) cw ⟨wd_pc, fun U hU hW => ⟨rfl, wd_at a hP hS U hU hW⟩⟩ rfl hn hl.1 rfl (lv_room hcat) hdg hf) hS hA hf1 hA (fun E ce q9 u t H1 locs1 ht hvm hw hB hz hk hS1 h1 h2 h3 => kx E u.1 ce q9 u.2 H1 locs1 la hw hB.1 (by rw [← ht]; exact hB.2) hS1 hl h1 h2 h3) (fun r u t H1 locs1 ht hvm hw hB hz hk hS1 => by
    obtain ⟨rfl, hw⟩ := hw
    exact k u.1 u.2 hw H1 locs1 la (by rw [← ht]; exact hB) hS1 hl)
theorem a_csj (a : AM p l e s m args meth c own Ts cc nL D X ad) {y : MethodName} {bytes : ByteArray} {maxL n ix mc ms : Nat} {ret : Option FieldType} {ws : List Cond} {rm : Room} {As rest : List Value} {K : Int → St → Prop}  (hM : ∀ sz : Nat, Met l y ws rm (va_Pc As (WD D X ad σ sz)) (QJ D X ad sz K) mc ms (AA ad sz)) (cw : CallB R s args own ix y bytes maxL ret ws rm mc ms n ∧ (Cond.static y).before args s = true) (hn : As.length = n) (hst : st = As.reverse ++ rest) (hcat : (rest.map fun v => v.category).sum ≤ 8) (hf : cells + mc ≤ R.cells ∧ slots + ms ≤ R.slots) (hdg : decode cc pc = .ok (.invokestatic ix, 3))
    (k : ∀ (r : Int) (σ1 : St), K r σ1 → GG p l e R s m args below meth c (cells + mc) (slots + ms) Q D X ad nL (pc + 3) ls (vJ r :: rest) σ1) : GG p l e R s m args below meth c cells slots Q D X ad nL pc ls st σ := by
  intro H locs la hP hS hl
  subst hst
  have hA : ∀ q, q < H.size → AA ad H.size q → AA ad s.heap.size q := fun q _ h => AA_sub hS.1 h
  have hf1 : ∀ q, AA ad H.size q → AA ad s.heap.size q := fun q h => AA_sub hS.1 h
  exact va_calll (va_runS (As := As) (rest := rest) a.1 (hM H.size) cw ⟨wd_pc, fun U hU hW => ⟨rfl, wd_at a hP hS U hU hW⟩⟩ rfl hn hl.1 rfl (lv_room hcat) hdg hf) hS hA hf1 (fun r u t H1 locs1 ht hvm hw hB hz hk hS1 => by
    obtain ⟨rfl, hw⟩ := hw
    exact k u.1 u.2 hw H1 locs1 la (by rw [← ht]; exact hB) hS1 hl)
theorem a_xsj (a : AM p l e s m args meth c own Ts cc nL D X ad) {y : MethodName} {bytes : ByteArray} {maxL n ix mc ms : Nat} {ret : Option FieldType} {ws : List Cond} {rm : Room} {As rest : List Value} {K : Int → St → Prop} {Kx : Nat → St → Prop}  (hM : ∀ sz : Nat, vx_Met l y ws rm (va_Pc As (WD D X ad σ sz)) (QJ D X ad sz K) (XX D X ad sz Kx) mc ms (AA ad sz)) (cw : CallB R s args own ix y bytes maxL ret ws rm mc ms n ∧ (Cond.static y).before args s = true) (hn : As.length = n) (hst : st = As.reverse ++ rest) (hcat : (rest.map fun v => v.category).sum ≤ 8) (hf : cells + mc ≤ R.cells ∧ slots + ms ≤ R.slots) (hdg : decode cc pc = .ok (.invokestatic ix, 3))
    (kx : ∀ (E : String) (cx : Nat) (ce : Cell) (q9 : Addr) (σ1 : St) (H1 : Heap) (locs1 : List Loc) (la : Array Slot), Kx cx σ1 → E = eNm cx → va_P D vwCl (wsO X ad σ1) H1 → va_S (AA ad s.heap.size) s.heap H1 locs1 → lv_has la nL ls → H1[q9]? = some ce → ce.vm = .none → s.vm.findClass E = some ce.cls → vx_W p l e R s m args below meth c H1 locs1 (cells + mc) (slots + ms) Q (F0 m pc la rest) q9)
    (k : ∀ (r : Int) (σ1 : St), K r σ1 → GG p l e R s m args below meth c (cells + mc) (slots + ms) Q D X ad nL (pc + 3) ls (vJ r :: rest) σ1) : GG p l e R s m args below meth c cells slots Q D X ad nL pc ls st σ := by
  intro H locs la hP hS hl
  subst hst
  have hA : ∀ q, q < H.size → AA ad H.size q → AA ad s.heap.size q := fun q _ h => AA_sub hS.1 h
  have hf1 : ∀ q, AA ad H.size q → AA ad s.heap.size q := fun q h => AA_sub hS.1 h
  exact vx_calll (vx_runS (As := As) (rest := rest) a.1 (hM H.size) cw ⟨wd_pc, fun U hU hW => ⟨rfl, wd_at a hP hS U hU hW⟩⟩ rfl hn hl.1 rfl (lv_room hcat) hdg hf) hS hA hf1 hA (fun E ce q9 u t H1 locs1 ht hvm hw hB hz hk hS1 h1 h2 h3 => kx E u.1 ce q9 u.2 H1 locs1 la hw hB.1 (by rw [← ht]; exact hB.2) hS1 hl h1 h2 h3) (fun r u t H1 locs1 ht hvm hw hB hz hk hS1 => by
    obtain ⟨rfl, hw⟩ := hw
    exact k u.1 u.2 hw H1 locs1 la (by rw [← ht]; exact hB) hS1 hl)
theorem a_csd (a : AM p l e s m args meth c own Ts cc nL D X ad) {y : MethodName} {bytes : ByteArray} {maxL n ix mc ms : Nat} {ret : Option FieldType} {ws : List Cond} {rm : Room} {As rest : List Value} {K : UInt64 → St → Prop}  (hM : ∀ sz : Nat, Met l y ws rm (va_Pc As (WD D X ad σ sz)) (QD D X ad sz K) mc ms (AA ad sz)) (cw : CallB R s args own ix y bytes maxL ret ws rm mc ms n ∧ (Cond.static y).before args s = true) (hn : As.length = n) (hst : st = As.reverse ++ rest) (hcat : (rest.map fun v => v.category).sum ≤ 8) (hf : cells + mc ≤ R.cells ∧ slots + ms ≤ R.slots) (hdg : decode cc pc = .ok (.invokestatic ix, 3))
    (k : ∀ (r : UInt64) (σ1 : St), K r σ1 → GG p l e R s m args below meth c (cells + mc) (slots + ms) Q D X ad nL (pc + 3) ls (Value.double r :: rest) σ1) : GG p l e R s m args below meth c cells slots Q D X ad nL pc ls st σ := by
  intro H locs la hP hS hl
  subst hst
  have hA : ∀ q, q < H.size → AA ad H.size q → AA ad s.heap.size q := fun q _ h => AA_sub hS.1 h
  have hf1 : ∀ q, AA ad H.size q → AA ad s.heap.size q := fun q h => AA_sub hS.1 h
  exact va_calld (va_runS (As := As) (rest := rest) a.1 (hM H.size) cw ⟨wd_pc, fun U hU hW => ⟨rfl, wd_at a hP hS U hU hW⟩⟩ rfl hn hl.1 rfl (lv_room hcat) hdg hf) hS hA hf1 (fun r u t H1 locs1 ht hvm hw hB hz hk hS1 => by
    obtain ⟨rfl, hw⟩ := hw
    exact k u.1 u.2 hw H1 locs1 la (by rw [← ht]; exact hB) hS1 hl)
theorem a_xsd (a : AM p l e s m args meth c own Ts cc nL D X ad) {y : MethodName} {bytes : ByteArray} {maxL n ix mc ms : Nat} {ret : Option FieldType} {ws : List Cond} {rm : Room} {As rest : List Value} {K : UInt64 → St → Prop} {Kx : Nat → St → Prop}  (hM : ∀ sz : Nat, vx_Met l y ws rm (va_Pc As (WD D X ad σ sz)) (QD D X ad sz K) (XX D X ad sz Kx) mc ms (AA ad sz)) (cw : CallB R s args own ix y bytes maxL ret ws rm mc ms n ∧ (Cond.static y).before args s = true) (hn : As.length = n) (hst : st = As.reverse ++ rest) (hcat : (rest.map fun v => v.category).sum ≤ 8) (hf : cells + mc ≤ R.cells ∧ slots + ms ≤ R.slots) (hdg : decode cc pc = .ok (.invokestatic ix, 3))
    (kx : ∀ (E : String) (cx : Nat) (ce : Cell) (q9 : Addr) (σ1 : St) (H1 : Heap) (locs1 : List Loc) (la : Array Slot), Kx cx σ1 → E = eNm cx → va_P D vwCl (wsO X ad σ1) H1 → va_S (AA ad s.heap.size) s.heap H1 locs1 → lv_has la nL ls → H1[q9]? = some ce → ce.vm = .none → s.vm.findClass E = some ce.cls → vx_W p l e R s m args below meth c H1 locs1 (cells + mc) (slots + ms) Q (F0 m pc la rest) q9)
    (k : ∀ (r : UInt64) (σ1 : St), K r σ1 → GG p l e R s m args below meth c (cells + mc) (slots + ms) Q D X ad nL (pc + 3) ls (Value.double r :: rest) σ1) : GG p l e R s m args below meth c cells slots Q D X ad nL pc ls st σ := by
  intro H locs la hP hS hl
  subst hst
  have hA : ∀ q, q < H.size → AA ad H.size q → AA ad s.heap.size q := fun q _ h => AA_sub hS.1 h
  have hf1 : ∀ q, AA ad H.size q → AA ad s.heap.size q := fun q h => AA_sub hS.1 h
  exact vx_calld (vx_runS (As := As) (rest := rest) a.1 (hM H.size) cw ⟨wd_pc, fun U hU hW => ⟨rfl, wd_at a hP hS U hU hW⟩⟩ rfl hn hl.1 rfl (lv_room hcat) hdg hf) hS hA hf1 hA (fun E ce q9 u t H1 locs1 ht hvm hw hB hz hk hS1 h1 h2 h3 => kx E u.1 ce q9 u.2 H1 locs1 la hw hB.1 (by rw [← ht]; exact hB.2) hS1 hl h1 h2 h3) (fun r u t H1 locs1 ht hvm hw hB hz hk hS1 => by
    obtain ⟨rfl, hw⟩ := hw
    exact k u.1 u.2 hw H1 locs1 la (by rw [← ht]; exact hB) hS1 hl)
theorem a_csv (a : AM p l e s m args meth c own Ts cc nL D X ad) {y : MethodName} {bytes : ByteArray} {maxL n ix mc ms : Nat} {ret : Option FieldType} {ws : List Cond} {rm : Room} {As rest : List Value} {K : St → Prop}  (hM : ∀ sz : Nat, Met l y ws rm (va_Pc As (WD D X ad σ sz)) (QV D X ad sz K) mc ms (AA ad sz)) (cw : CallB R s args own ix y bytes maxL ret ws rm mc ms n ∧ (Cond.static y).before args s = true) (hn : As.length = n) (hst : st = As.reverse ++ rest) (hcat : (rest.map fun v => v.category).sum ≤ 8) (hf : cells + mc ≤ R.cells ∧ slots + ms ≤ R.slots) (hdg : decode cc pc = .ok (.invokestatic ix, 3))
    (k : ∀ (σ1 : St), K σ1 → GG p l e R s m args below meth c (cells + mc) (slots + ms) Q D X ad nL (pc + 3) ls (rest) σ1) : GG p l e R s m args below meth c cells slots Q D X ad nL pc ls st σ := by
  intro H locs la hP hS hl
  subst hst
  have hA : ∀ q, q < H.size → AA ad H.size q → AA ad s.heap.size q := fun q _ h => AA_sub hS.1 h
  have hf1 : ∀ q, AA ad H.size q → AA ad s.heap.size q := fun q h => AA_sub hS.1 h
  exact va_callv (va_runS (As := As) (rest := rest) a.1 (hM H.size) cw ⟨wd_pc, fun U hU hW => ⟨rfl, wd_at a hP hS U hU hW⟩⟩ rfl hn hl.1 rfl (lv_room hcat) hdg hf) hS hA hf1 (fun u t H1 locs1 ht hvm hw hB hz hk hS1 => k u hw H1 locs1 la (by rw [← ht]; exact hB) hS1 hl)
theorem a_xsv (a : AM p l e s m args meth c own Ts cc nL D X ad) {y : MethodName} {bytes : ByteArray} {maxL n ix mc ms : Nat} {ret : Option FieldType} {ws : List Cond} {rm : Room} {As rest : List Value} {K : St → Prop} {Kx : Nat → St → Prop}  (hM : ∀ sz : Nat, vx_Met l y ws rm (va_Pc As (WD D X ad σ sz)) (QV D X ad sz K) (XX D X ad sz Kx) mc ms (AA ad sz)) (cw : CallB R s args own ix y bytes maxL ret ws rm mc ms n ∧ (Cond.static y).before args s = true) (hn : As.length = n) (hst : st = As.reverse ++ rest) (hcat : (rest.map fun v => v.category).sum ≤ 8) (hf : cells + mc ≤ R.cells ∧ slots + ms ≤ R.slots) (hdg : decode cc pc = .ok (.invokestatic ix, 3))
    (kx : ∀ (E : String) (cx : Nat) (ce : Cell) (q9 : Addr) (σ1 : St) (H1 : Heap) (locs1 : List Loc) (la : Array Slot), Kx cx σ1 → E = eNm cx → va_P D vwCl (wsO X ad σ1) H1 → va_S (AA ad s.heap.size) s.heap H1 locs1 → lv_has la nL ls → H1[q9]? = some ce → ce.vm = .none → s.vm.findClass E = some ce.cls → vx_W p l e R s m args below meth c H1 locs1 (cells + mc) (slots + ms) Q (F0 m pc la rest) q9)
    (k : ∀ (σ1 : St), K σ1 → GG p l e R s m args below meth c (cells + mc) (slots + ms) Q D X ad nL (pc + 3) ls (rest) σ1) : GG p l e R s m args below meth c cells slots Q D X ad nL pc ls st σ := by
  intro H locs la hP hS hl
  subst hst
  have hA : ∀ q, q < H.size → AA ad H.size q → AA ad s.heap.size q := fun q _ h => AA_sub hS.1 h
  have hf1 : ∀ q, AA ad H.size q → AA ad s.heap.size q := fun q h => AA_sub hS.1 h
  exact vx_callv (vx_runS (As := As) (rest := rest) a.1 (hM H.size) cw ⟨wd_pc, fun U hU hW => ⟨rfl, wd_at a hP hS U hU hW⟩⟩ rfl hn hl.1 rfl (lv_room hcat) hdg hf) hS hA hf1 hA (fun E ce q9 u t H1 locs1 ht hvm hw hB hz hk hS1 h1 h2 h3 => kx E u.1 ce q9 u.2 H1 locs1 la hw hB.1 (by rw [← ht]; exact hB.2) hS1 hl h1 h2 h3) (fun u t H1 locs1 ht hvm hw hB hz hk hS1 => k u hw H1 locs1 la (by rw [← ht]; exact hB) hS1 hl)
theorem a_cwi (a : AM p l e s m args meth c own Ts cc nL D X ad) {y : MethodName} {bytes : ByteArray} {maxL n ix mc ms : Nat} {ret : Option FieldType} {ws : List Cond} {rm : Room} {As rest : List Value} {K : Int → St → Prop} {hh : List (Nat × Nat × Nat × Nat)} (hM : ∀ sz : Nat, Met l y ws rm (va_Pc As (WD D X ad σ sz)) (QI D X ad sz K) mc ms (AA ad sz)) (cw : vx_CSW R s args own ix y bytes maxL ret hh ws rm mc ms n) (hn : As.length = n) (hst : st = As.reverse ++ rest) (hcat : (rest.map fun v => v.category).sum ≤ 8) (hf : cells + mc ≤ R.cells ∧ slots + ms ≤ R.slots) (hdg : decode cc pc = .ok (.invokestatic ix, 3))
    (k : ∀ (r : Int) (σ1 : St), K r σ1 → GG p l e R s m args below meth c (cells + mc) (slots + ms) Q D X ad nL (pc + 3) ls (vI r :: rest) σ1) : GG p l e R s m args below meth c cells slots Q D X ad nL pc ls st σ := by
  intro H locs la hP hS hl
  subst hst
  have hA : ∀ q, q < H.size → AA ad H.size q → AA ad s.heap.size q := fun q _ h => AA_sub hS.1 h
  have hf1 : ∀ q, AA ad H.size q → AA ad s.heap.size q := fun q h => AA_sub hS.1 h
  exact va_calli (vx_runSW (As := As) (rest := rest) a.1 (hM H.size) cw ⟨wd_pc, fun U hU hW => ⟨rfl, wd_at a hP hS U hU hW⟩⟩ rfl hn hl.1 rfl (lv_room hcat) hdg hf) hS hA hf1 (fun r u t H1 locs1 ht hvm hw hB hz hk hS1 => by
    obtain ⟨rfl, hw⟩ := hw
    exact k u.1 u.2 hw H1 locs1 la (by rw [← ht]; exact hB) hS1 hl)
theorem x_catch (a : AM p l e s m args meth c own Ts cc nL D X ad) {rest : List Value} {E name : String} {ce : Cell} {q9 : Addr} {H1 : Heap} {locs1 : List Loc} {la : Array Slot} (pre : List ExceptionTableEntry) (x : ExceptionTableEntry) (suf : List ExceptionTableEntry) (hsplit : c.exceptionTable.toList = pre ++ x :: suf) (hpass : ∀ z ∈ pre, covers z pc = false ∨ (z.catchType ≠ 0 ∧ ∃ nm : String, (Cond.classLink own z.catchType nm).before args s = true ∧ va_Nc E nm s)) (hx : covers x pc = true) (h0 : x.catchType ≠ 0) (hlink : (Cond.classLink own x.catchType name).before args s = true) (hcast : (Cond.castable E name).before args s = true) (h1 : H1[q9]? = some ce) (h2 : ce.vm = .none) (h3 : s.vm.findClass E = some ce.cls) (hP : va_P D vwCl (wsO X ad σ) H1) (hS : va_S (AA ad s.heap.size) s.heap H1 locs1) (hl : lv_has la nL ls)
    (k : GG p l e R s m args below meth c cells slots Q D X ad nL x.handlerPc ls [Value.ref q9] σ) : vx_W p l e R s m args below meth c H1 locs1 cells slots Q (F0 m pc la rest) q9 :=
  vx_catch a.1.2.2.2.1 pre x suf hsplit hpass hx h0 hlink hcast h1 h2 h3 (k H1 locs1 la hP hS hl)
def WDS (D : va_G) (X : XI) (ad : Nat → Nat) (σ : St) (bb L : Nat) (xs : Nat → Int32) (sz : Nat) : State → Prop := fun U => WD D X ad σ sz U ∧ va_X bb L xs U U.heap ∧ bb < sz ∧ ¬ AA ad sz bb
theorem wds_pc {D : va_G} {X : XI} {ad : Nat → Nat} {σ : St} {bb L : Nat} {xs : Nat → Int32} {sz : Nat} {av : List Value} : FrameBlind (va_Pc av (WDS D X ad σ bb L xs sz)) := by
  rintro a U g mk ⟨h1, ⟨h2, h3, h4, h5⟩, h6, h7⟩
  exact ⟨h1, ⟨h2, h3, va_K.moved (u := U) (U := U.calling g mk a) (Vm.Alike.refl U.vm) h4, StF.go (U := U.calling g mk a) (State.WarmedH.refl U) h5 (fun _ _ _ => rfl) (fun _ h => h)⟩, va_X.moved (u := U) (U := U.calling g mk a) (Vm.Alike.refl U.vm) h6, h7⟩
theorem a_csS (a : AM p l e s m args meth c own Ts cc nL D X ad) {y : MethodName} {bytes : ByteArray} {maxL n ix mc ms : Nat} {ret : Option FieldType} {ws : List Cond} {rm : Room} {As rest : List Value} {K : Int → St → Prop} {bb L : Nat} {xs : Nat → Int32} (hX : va_X bb L xs s s.heap) (hbl : bb < s.heap.size) (hbA : ¬ AA ad s.heap.size bb) (hM : ∀ sz : Nat, Met l y ws rm (va_Pc As (WDS D X ad σ bb L xs sz)) (QI D X ad sz K) mc ms (AA ad sz)) (cw : CallB R s args own ix y bytes maxL ret ws rm mc ms n ∧ (Cond.static y).before args s = true) (hn : As.length = n) (hst : st = As.reverse ++ rest) (hcat : (rest.map fun v => v.category).sum ≤ 8) (hf : cells + mc ≤ R.cells ∧ slots + ms ≤ R.slots) (hdg : decode cc pc = .ok (.invokestatic ix, 3))
    (k : ∀ (r : Int) (σ1 : St), K r σ1 → GG p l e R s m args below meth c (cells + mc) (slots + ms) Q D X ad nL (pc + 3) ls (vI r :: rest) σ1) : GG p l e R s m args below meth c cells slots Q D X ad nL pc ls st σ := by
  intro H locs la hP hS hl
  subst hst
  have hA : ∀ q, q < H.size → AA ad H.size q → AA ad s.heap.size q := fun q _ h => AA_sub hS.1 h
  have hf1 : ∀ q, AA ad H.size q → AA ad s.heap.size q := fun q h => AA_sub hS.1 h
  exact va_calli (va_runS (As := As) (rest := rest) a.1 (hM H.size) cw ⟨wds_pc, fun U hU hW => ⟨rfl, wd_at a hP hS U hU hW, by rw [hU]; exact va_X.moved hW.alike (hX.kept (hS.2.1 bb hbl hbA)), Nat.lt_of_lt_of_le hbl hS.1, fun z => hbA (AA_sub hS.1 z)⟩⟩ rfl hn hl.1 rfl (lv_room hcat) hdg hf) hS hA hf1 (fun r u t H1 locs1 ht hvm hw hB hz hk hS1 => by
    obtain ⟨rfl, hw⟩ := hw
    exact k u.1 u.2 hw H1 locs1 la (by rw [← ht]; exact hB) hS1 hl)
end MACH
section MACHE
variable {p : Program} {l : Launch} {e : Env} {R : Room} {s : State} {m : MethodId} {args : Array Value} {below : List Frame} {meth : Method} {c : Code} {cells slots : Nat} {D : va_G} {X : XI} {ad : Nat → Nat} {nL pc : Nat} {ls : List (Nat × Value)} {σ : St} {own : String} {Ts : List Cond} {cc : ByteArray}
theorem st_free {ad : Nat → Nat} {s : State} {H : Heap} {locs : List Loc} (hS : va_S (AA ad s.heap.size) s.heap H locs) : ∀ q ∈ locs, AA ad s.heap.size q.base := fun q h => hS.2.2 q h
theorem e_i (a : AM p l e s m args meth c own Ts cc nL D X ad) {x : Int} {K : Int → St → Prop} (hr : meth.sig.returnType = some .int) (hdg : decode cc pc = .ok (.ireturn, 1)) (hk : K x σ) : GG p l e R s m args below meth c cells slots (MQ below (QI D X ad s.heap.size K) args s cells slots (AA ad s.heap.size)) D X ad nL pc ls [vI x] σ := by
  intro H locs la hP hS hl
  exact W.iret a.1.1 a.1.2.1 hr (fun t ht _ => ⟨⟨iI x, (x, σ), rfl, ⟨rfl, hk⟩, by show va_P D vwCl (wsO X ad σ) t.heap; rw [ht]; exact hP⟩, hS.F ht⟩) (st_free hS) hdg a.2.2.2.2.1
theorem eA_i (a : AM p l e s m args meth c own Ts cc nL D X ad) {x : Int} {K : Int → St → Prop} {ad0 : Nat → Nat} (hsub : ∀ (τ : St) (H : Heap), va_P D vwCl (wsO X ad τ) H → va_P D vwCl (wsO X ad0 τ) H) (hAA : AA ad s.heap.size = AA ad0 s.heap.size) (hr : meth.sig.returnType = some .int) (hdg : decode cc pc = .ok (.ireturn, 1)) (hk : K x σ) : GG p l e R s m args below meth c cells slots (MQ below (QI D X ad0 s.heap.size K) args s cells slots (AA ad0 s.heap.size)) D X ad nL pc ls [vI x] σ := by
  intro H locs la hP hS hl
  replace hP := hsub _ _ hP
  rw [hAA] at hS
  exact W.iret a.1.1 a.1.2.1 hr (fun t ht _ => ⟨⟨iI x, (x, σ), rfl, ⟨rfl, hk⟩, by show va_P D vwCl (wsO X ad0 σ) t.heap; rw [ht]; exact hP⟩, hS.F ht⟩) (st_free hS) hdg a.2.2.2.2.1
theorem ex_i (a : AM p l e s m args meth c own Ts cc nL D X ad) {x : Int} {K : Int → St → Prop} {XC : String → State → State → Prop} {mc ms : Nat} (hr : meth.sig.returnType = some .int) (hdg : decode cc pc = .ok (.ireturn, 1)) (hc : cells ≤ mc) (hs : slots ≤ ms) (hk : K x σ) : GG p l e R s m args below meth c cells slots (vx_MQ below (QI D X ad s.heap.size K) XC args s mc ms (AA ad s.heap.size)) D X ad nL pc ls [vI x] σ := by
  intro H locs la hP hS hl
  refine W.widen hc hs (vx_ret ?_)
  exact W.iret a.1.1 a.1.2.1 hr (fun t ht _ => ⟨⟨iI x, (x, σ), rfl, ⟨rfl, hk⟩, by show va_P D vwCl (wsO X ad σ) t.heap; rw [ht]; exact hP⟩, hS.F ht⟩) (st_free hS) hdg a.2.2.2.2.1
theorem e_z (a : AM p l e s m args meth c own Ts cc nL D X ad) {x : Int} {K : Int → St → Prop} (hr : meth.sig.returnType = some .boolean) (hbl : Bl x) (hdg : decode cc pc = .ok (.ireturn, 1)) (hk : K x σ) : GG p l e R s m args below meth c cells slots (MQ below (QI D X ad s.heap.size K) args s cells slots (AA ad s.heap.size)) D X ad nL pc ls [vI x] σ := by
  intro H locs la hP hS hl
  exact W.zret a.1.1 a.1.2.1 hr (bl_nar hbl) (fun t ht _ => ⟨⟨iI x, (x, σ), rfl, ⟨rfl, hk⟩, by show va_P D vwCl (wsO X ad σ) t.heap; rw [ht]; exact hP⟩, hS.F ht⟩) (st_free hS) hdg a.2.2.2.2.1
theorem eA_z (a : AM p l e s m args meth c own Ts cc nL D X ad) {x : Int} {K : Int → St → Prop} {ad0 : Nat → Nat} (hsub : ∀ (τ : St) (H : Heap), va_P D vwCl (wsO X ad τ) H → va_P D vwCl (wsO X ad0 τ) H) (hAA : AA ad s.heap.size = AA ad0 s.heap.size) (hr : meth.sig.returnType = some .boolean) (hbl : Bl x) (hdg : decode cc pc = .ok (.ireturn, 1)) (hk : K x σ) : GG p l e R s m args below meth c cells slots (MQ below (QI D X ad0 s.heap.size K) args s cells slots (AA ad0 s.heap.size)) D X ad nL pc ls [vI x] σ := by
  intro H locs la hP hS hl
  replace hP := hsub _ _ hP
  rw [hAA] at hS
  exact W.zret a.1.1 a.1.2.1 hr (bl_nar hbl) (fun t ht _ => ⟨⟨iI x, (x, σ), rfl, ⟨rfl, hk⟩, by show va_P D vwCl (wsO X ad0 σ) t.heap; rw [ht]; exact hP⟩, hS.F ht⟩) (st_free hS) hdg a.2.2.2.2.1
theorem ex_z (a : AM p l e s m args meth c own Ts cc nL D X ad) {x : Int} {K : Int → St → Prop} {XC : String → State → State → Prop} {mc ms : Nat} (hr : meth.sig.returnType = some .boolean) (hbl : Bl x) (hdg : decode cc pc = .ok (.ireturn, 1)) (hc : cells ≤ mc) (hs : slots ≤ ms) (hk : K x σ) : GG p l e R s m args below meth c cells slots (vx_MQ below (QI D X ad s.heap.size K) XC args s mc ms (AA ad s.heap.size)) D X ad nL pc ls [vI x] σ := by
  intro H locs la hP hS hl
  refine W.widen hc hs (vx_ret ?_)
  exact W.zret a.1.1 a.1.2.1 hr (bl_nar hbl) (fun t ht _ => ⟨⟨iI x, (x, σ), rfl, ⟨rfl, hk⟩, by show va_P D vwCl (wsO X ad σ) t.heap; rw [ht]; exact hP⟩, hS.F ht⟩) (st_free hS) hdg a.2.2.2.2.1
theorem e_j (a : AM p l e s m args meth c own Ts cc nL D X ad) {x : Int} {K : Int → St → Prop} (hr : meth.sig.returnType = some .long) (hdg : decode cc pc = .ok (.lreturn, 1)) (hk : K x σ) : GG p l e R s m args below meth c cells slots (MQ below (QJ D X ad s.heap.size K) args s cells slots (AA ad s.heap.size)) D X ad nL pc ls [vJ x] σ := by
  intro H locs la hP hS hl
  exact W.lret a.1.1 a.1.2.1 hr (fun t ht _ => ⟨⟨iJ x, (x, σ), rfl, ⟨rfl, hk⟩, by show va_P D vwCl (wsO X ad σ) t.heap; rw [ht]; exact hP⟩, hS.F ht⟩) (st_free hS) hdg a.2.2.2.2.1
theorem eA_j (a : AM p l e s m args meth c own Ts cc nL D X ad) {x : Int} {K : Int → St → Prop} {ad0 : Nat → Nat} (hsub : ∀ (τ : St) (H : Heap), va_P D vwCl (wsO X ad τ) H → va_P D vwCl (wsO X ad0 τ) H) (hAA : AA ad s.heap.size = AA ad0 s.heap.size) (hr : meth.sig.returnType = some .long) (hdg : decode cc pc = .ok (.lreturn, 1)) (hk : K x σ) : GG p l e R s m args below meth c cells slots (MQ below (QJ D X ad0 s.heap.size K) args s cells slots (AA ad0 s.heap.size)) D X ad nL pc ls [vJ x] σ := by
  intro H locs la hP hS hl
  replace hP := hsub _ _ hP
  rw [hAA] at hS
  exact W.lret a.1.1 a.1.2.1 hr (fun t ht _ => ⟨⟨iJ x, (x, σ), rfl, ⟨rfl, hk⟩, by show va_P D vwCl (wsO X ad0 σ) t.heap; rw [ht]; exact hP⟩, hS.F ht⟩) (st_free hS) hdg a.2.2.2.2.1
theorem ex_j (a : AM p l e s m args meth c own Ts cc nL D X ad) {x : Int} {K : Int → St → Prop} {XC : String → State → State → Prop} {mc ms : Nat} (hr : meth.sig.returnType = some .long) (hdg : decode cc pc = .ok (.lreturn, 1)) (hc : cells ≤ mc) (hs : slots ≤ ms) (hk : K x σ) : GG p l e R s m args below meth c cells slots (vx_MQ below (QJ D X ad s.heap.size K) XC args s mc ms (AA ad s.heap.size)) D X ad nL pc ls [vJ x] σ := by
  intro H locs la hP hS hl
  refine W.widen hc hs (vx_ret ?_)
  exact W.lret a.1.1 a.1.2.1 hr (fun t ht _ => ⟨⟨iJ x, (x, σ), rfl, ⟨rfl, hk⟩, by show va_P D vwCl (wsO X ad σ) t.heap; rw [ht]; exact hP⟩, hS.F ht⟩) (st_free hS) hdg a.2.2.2.2.1
theorem e_d (a : AM p l e s m args meth c own Ts cc nL D X ad) {x : UInt64} {K : UInt64 → St → Prop} (hr : meth.sig.returnType = some .double) (hdg : decode cc pc = .ok (.dreturn, 1)) (hk : K x σ) : GG p l e R s m args below meth c cells slots (MQ below (QD D X ad s.heap.size K) args s cells slots (AA ad s.heap.size)) D X ad nL pc ls [Value.double x] σ := by
  intro H locs la hP hS hl
  exact W.dret a.1.1 a.1.2.1 hr (fun t ht _ => ⟨⟨x, (x, σ), rfl, ⟨rfl, hk⟩, by show va_P D vwCl (wsO X ad σ) t.heap; rw [ht]; exact hP⟩, hS.F ht⟩) (st_free hS) hdg a.2.2.2.2.1
theorem eA_d (a : AM p l e s m args meth c own Ts cc nL D X ad) {x : UInt64} {K : UInt64 → St → Prop} {ad0 : Nat → Nat} (hsub : ∀ (τ : St) (H : Heap), va_P D vwCl (wsO X ad τ) H → va_P D vwCl (wsO X ad0 τ) H) (hAA : AA ad s.heap.size = AA ad0 s.heap.size) (hr : meth.sig.returnType = some .double) (hdg : decode cc pc = .ok (.dreturn, 1)) (hk : K x σ) : GG p l e R s m args below meth c cells slots (MQ below (QD D X ad0 s.heap.size K) args s cells slots (AA ad0 s.heap.size)) D X ad nL pc ls [Value.double x] σ := by
  intro H locs la hP hS hl
  replace hP := hsub _ _ hP
  rw [hAA] at hS
  exact W.dret a.1.1 a.1.2.1 hr (fun t ht _ => ⟨⟨x, (x, σ), rfl, ⟨rfl, hk⟩, by show va_P D vwCl (wsO X ad0 σ) t.heap; rw [ht]; exact hP⟩, hS.F ht⟩) (st_free hS) hdg a.2.2.2.2.1
theorem ex_d (a : AM p l e s m args meth c own Ts cc nL D X ad) {x : UInt64} {K : UInt64 → St → Prop} {XC : String → State → State → Prop} {mc ms : Nat} (hr : meth.sig.returnType = some .double) (hdg : decode cc pc = .ok (.dreturn, 1)) (hc : cells ≤ mc) (hs : slots ≤ ms) (hk : K x σ) : GG p l e R s m args below meth c cells slots (vx_MQ below (QD D X ad s.heap.size K) XC args s mc ms (AA ad s.heap.size)) D X ad nL pc ls [Value.double x] σ := by
  intro H locs la hP hS hl
  refine W.widen hc hs (vx_ret ?_)
  exact W.dret a.1.1 a.1.2.1 hr (fun t ht _ => ⟨⟨x, (x, σ), rfl, ⟨rfl, hk⟩, by show va_P D vwCl (wsO X ad σ) t.heap; rw [ht]; exact hP⟩, hS.F ht⟩) (st_free hS) hdg a.2.2.2.2.1
theorem e_v (a : AM p l e s m args meth c own Ts cc nL D X ad) {K : St → Prop} (hr : meth.sig.returnType = none) (hdg : decode cc pc = .ok (.return_, 1)) (hk : K σ) : GG p l e R s m args below meth c cells slots (MQ below (QV D X ad s.heap.size K) args s cells slots (AA ad s.heap.size)) D X ad nL pc ls [] σ := by
  intro H locs la hP hS hl
  exact W.vret a.1.1 a.1.2.1 hr (fun t ht _ => ⟨⟨σ, rfl, hk, by show va_P D vwCl (wsO X ad σ) t.heap; rw [ht]; exact hP⟩, hS.F ht⟩) (st_free hS) hdg a.2.2.2.2.1
theorem eA_v (a : AM p l e s m args meth c own Ts cc nL D X ad) {K : St → Prop} {ad0 : Nat → Nat} (hsub : ∀ (τ : St) (H : Heap), va_P D vwCl (wsO X ad τ) H → va_P D vwCl (wsO X ad0 τ) H) (hAA : AA ad s.heap.size = AA ad0 s.heap.size) (hr : meth.sig.returnType = none) (hdg : decode cc pc = .ok (.return_, 1)) (hk : K σ) : GG p l e R s m args below meth c cells slots (MQ below (QV D X ad0 s.heap.size K) args s cells slots (AA ad0 s.heap.size)) D X ad nL pc ls [] σ := by
  intro H locs la hP hS hl
  replace hP := hsub _ _ hP
  rw [hAA] at hS
  exact W.vret a.1.1 a.1.2.1 hr (fun t ht _ => ⟨⟨σ, rfl, hk, by show va_P D vwCl (wsO X ad0 σ) t.heap; rw [ht]; exact hP⟩, hS.F ht⟩) (st_free hS) hdg a.2.2.2.2.1
theorem ex_v (a : AM p l e s m args meth c own Ts cc nL D X ad) {K : St → Prop} {XC : String → State → State → Prop} {mc ms : Nat} (hr : meth.sig.returnType = none) (hdg : decode cc pc = .ok (.return_, 1)) (hc : cells ≤ mc) (hs : slots ≤ ms) (hk : K σ) : GG p l e R s m args below meth c cells slots (vx_MQ below (QV D X ad s.heap.size K) XC args s mc ms (AA ad s.heap.size)) D X ad nL pc ls [] σ := by
  intro H locs la hP hS hl
  refine W.widen hc hs (vx_ret ?_)
  exact W.vret a.1.1 a.1.2.1 hr (fun t ht _ => ⟨⟨σ, rfl, hk, by show va_P D vwCl (wsO X ad σ) t.heap; rw [ht]; exact hP⟩, hS.F ht⟩) (st_free hS) hdg a.2.2.2.2.1
theorem x_pass (a : AM p l e s m args meth c own Ts cc nL D X ad) {Qc : Array Value → State → Outcome → State → Prop} {Kx : Nat → St → Prop} {mc ms : Nat} (hno : ∀ x ∈ c.exceptionTable.toList, False) (hc : cells ≤ mc) (hs : slots ≤ ms) {rest : List Value} {E : String} {cx : Nat} {ce : Cell} {q9 : Addr} {σ1 : St} {H1 : Heap} {locs1 : List Loc} {la : Array Slot} (hk : Kx cx σ1) (hE : E = eNm cx) (hP : va_P D vwCl (wsO X ad σ1) H1) (hS : va_S (AA ad s.heap.size) s.heap H1 locs1) (h1 : H1[q9]? = some ce) (h2 : ce.vm = .none) (h3 : s.vm.findClass E = some ce.cls) :
    vx_W p l e R s m args below meth c H1 locs1 cells slots (vx_MQ below Qc (XX D X ad s.heap.size Kx) args s mc ms (AA ad s.heap.size)) (F0 m pc la rest) q9 :=
  vx_out (fun x hx => (hno x hx).elim) a.2.2.2.2.1 h1 h2 h3 (fun t ht _ => ⟨(cx, σ1), hk, ⟨hE, by show va_P D vwCl (wsO X ad σ1) t.heap; rw [ht]; exact hP⟩, hS.F ht⟩) (st_free hS) hc hs
theorem x_throw (a : AM p l e s m args meth c own Ts cc nL D X ad) {Qc : Array Value → State → Outcome → State → Prop} {Kx : Nat → St → Prop} {mc ms : Nat} {st : List Value} {ik is ic cx : Nat} {cls text : String} {names : List String} (hno : ∀ x ∈ c.exceptionTable.toList, False) (hq : (is, text) ∈ strs) (hsl : own = "SightLegend") (hE : cls = eNm cx) (hcls : Bundle.fit cls = true) (hnames : ∀ n ∈ names, Bundle.fit n = true)
    (hk : (Cond.classLink own ik cls).before args s = true) (hini : (Cond.initialized cls).before args s = true) (hat : ∀ w ∈ vx_atS own ic cls names, w.before args s = true) (hgood : ∀ w ∈ Cond.classLink own ik cls :: Cond.initialized cls :: vx_atS own ic cls names, vx_ot w = true)
    (d0 : decode cc pc = .ok (.new ik, 3)) (d3 : decode cc (pc + 3) = .ok (.dup, 1)) (d4 : decode cc (pc + 4) = .ok (.ldc is, 2)) (d6 : decode cc (pc + 6) = .ok (.invokespecial ic, 3)) (d9 : decode cc (pc + 9) = .ok (.athrow, 1))
    (hRf : names.length + 3 < R.frames) (hRl : (st.map fun v => v.category).sum + (13 * (names.length + 1) + 43) ≤ R.locals) (hRc : cells + 1 ≤ R.cells) (hRs : slots + 6 ≤ R.slots) (hc : cells + 1 ≤ mc) (hs : slots + 6 ≤ ms) (hkx : Kx cx σ) :
    GG p l e R s m args below meth c cells slots (vx_MQ below Qc (XX D X ad s.heap.size Kx) args s mc ms (AA ad s.heap.size)) D X ad nL pc ls st σ := by
  intro H locs la hP hS hl
  obtain ⟨hU, hN, -, hstr, -⟩ := a.2.2.2.1
  obtain ⟨sa, hsa⟩ := hstr _ hq
  subst hsl
  refine vx_throwS a.1.1 a.1.2.1 a.2.2.2.2.2 a.1.2.2.2.1 hcls hnames hk hini hsa hat hgood hU hN hS (hl.1.trans a.1.2.2.1.symm) d0 d3 d4 d6 d9 (fun x hx => (hno x hx).elim) hRf hRl hRc hRs a.2.2.2.2.1 (fun t _ hsz hsame => ⟨(cx, σ), hkx, ⟨hE, ?_⟩, ?_⟩) (st_free hS) hc hs
  · exact hP.kept (fun k q hk => hsame _ (hP k q hk).lt)
  · exact ⟨Nat.le_trans hS.1 hsz, fun q h1 h2 => (hsame q (Nat.lt_of_lt_of_le h1 hS.1)).trans (hS.2.1 q h1 h2)⟩
theorem x_throwW (a : AM p l e s m args meth c own Ts cc nL D X ad) {Qc : Array Value → State → Outcome → State → Prop} {Kx : Nat → St → Prop} {mc ms : Nat} {st : List Value} {ik is ic cx : Nat} {cls text : String} {names : List String} (hno : ∀ x ∈ c.exceptionTable.toList, False) (hq : (is, text) ∈ strs) (hsl : own = "SightLegend") (hE : cls = eNm cx) (hcls : Bundle.fit cls = true) (hnames : ∀ n ∈ names, Bundle.fit n = true)
    (hk : (Cond.classLink own ik cls).before args s = true) (hini : (Cond.initialized cls).before args s = true) (hat : ∀ w ∈ vx_atS own ic cls names, w.before args s = true) (hgood : ∀ w ∈ Cond.classLink own ik cls :: Cond.initialized cls :: vx_atS own ic cls names, vx_ot w = true)
    (d0 : decode cc pc = .ok (.new ik, 3)) (d3 : decode cc (pc + 3) = .ok (.dup, 1)) (d4 : decode cc (pc + 4) = .ok (.ldc_w is, 3)) (d6 : decode cc (pc + 7) = .ok (.invokespecial ic, 3)) (d9 : decode cc (pc + 10) = .ok (.athrow, 1))
    (hRf : names.length + 3 < R.frames) (hRl : (st.map fun v => v.category).sum + (13 * (names.length + 1) + 43) ≤ R.locals) (hRc : cells + 1 ≤ R.cells) (hRs : slots + 6 ≤ R.slots) (hc : cells + 1 ≤ mc) (hs : slots + 6 ≤ ms) (hkx : Kx cx σ) :
    GG p l e R s m args below meth c cells slots (vx_MQ below Qc (XX D X ad s.heap.size Kx) args s mc ms (AA ad s.heap.size)) D X ad nL pc ls st σ := by
  intro H locs la hP hS hl
  obtain ⟨hU, hN, -, hstr, -⟩ := a.2.2.2.1
  obtain ⟨sa, hsa⟩ := hstr _ hq
  subst hsl
  refine vx_throwSW a.1.1 a.1.2.1 a.2.2.2.2.2 a.1.2.2.2.1 hcls hnames hk hini hsa hat hgood hU hN hS (hl.1.trans a.1.2.2.1.symm) d0 d3 d4 d6 d9 (fun x hx => (hno x hx).elim) hRf hRl hRc hRs a.2.2.2.2.1 (fun t _ hsz hsame => ⟨(cx, σ), hkx, ⟨hE, ?_⟩, ?_⟩) (st_free hS) hc hs
  · exact hP.kept (fun k q hk => hsame _ (hP k q hk).lt)
  · exact ⟨Nat.le_trans hS.1 hsz, fun q h1 h2 => (hsame q (Nat.lt_of_lt_of_le h1 hS.1)).trans (hS.2.1 q h1 h2)⟩
end MACHE
section MACHS
variable {l : Launch} {D : va_G} {X : XI} {ad : Nat → Nat} {sz : Nat} {σ : St}
theorem a_start {y : MethodName} {ws ws1 : List Cond} {rm : Room} {cc : ByteArray} {maxL : Nat} {ret : Option FieldType} {Qc : Array Value → State → Outcome → State → Prop} {own : String} (As : List Value) (hy : plainName y.cls = true) (hyo : y.cls = own) (hw : ws = Cond.code y cc maxL ret :: ws1) (hlen : (lg_sl As).length ≤ maxL) (hinj : adI ad) (hl0 : l.stackTraces = false)
    (body : ∀ (p : Program) (e : Env) (s : State) (m : MethodId) (below : List Frame) (meth : Method) (c : Code), AM p l e s m As.toArray meth c own ws cc maxL D X ad → meth.sig.returnType = ret → s.heap.size = sz → GG p l e (headSpec ws rm).room s m As.toArray below meth c 0 0 (MQ below Qc As.toArray s 0 0 (AA ad sz)) D X ad maxL 0 (lv_args 0 As) [] σ) : Met l y ws rm (va_Pc As (WD D X ad σ sz)) Qc 0 0 (AA ad sz) := by
  refine Met.ofW hy hw ?_
  intro p e s m args below meth c s₁ B hml hv
  obtain ⟨rfl, hsz, hP, hK, hF⟩ := hv
  have hown : s.vm.findClass own = some m.cls := hyo ▸ findClass_of_methodNamed B.named
  have h := body p e s m below meth c ⟨⟨B.exec, B.bytes, hml, hown, atoms_spec (ws := ws) B.pre⟩, hK, hinj, by rw [hsz]; exact hF, B.notSynchronized, hl0⟩ B.returns hsz
  rw [lg_entry_eq]
  exact h s.heap [] _ hP va_S.rf (lv_entry As hlen)
theorem aM_start {y : MethodName} {ws ws1 : List Cond} {rm : Room} {cc : ByteArray} {maxL mc ms : Nat} {ret : Option FieldType} {Qc : Array Value → State → Outcome → State → Prop} {own : String} (As : List Value) (hy : plainName y.cls = true) (hyo : y.cls = own) (hw : ws = Cond.code y cc maxL ret :: ws1) (hlen : (lg_sl As).length ≤ maxL) (hinj : adI ad) (hl0 : l.stackTraces = false)
    (body : ∀ (p : Program) (e : Env) (s : State) (m : MethodId) (below : List Frame) (meth : Method) (c : Code), AM p l e s m As.toArray meth c own ws cc maxL D X ad → meth.sig.returnType = ret → s.heap.size = sz → GG p l e (headSpec ws rm).room s m As.toArray below meth c 0 0 (MQ below Qc As.toArray s mc ms (AA ad sz)) D X ad maxL 0 (lv_args 0 As) [] σ) : Met l y ws rm (va_Pc As (WD D X ad σ sz)) Qc mc ms (AA ad sz) := by
  refine Met.ofW hy hw ?_
  intro p e s m args below meth c s₁ B hml hv
  obtain ⟨rfl, hsz, hP, hK, hF⟩ := hv
  have hown : s.vm.findClass own = some m.cls := hyo ▸ findClass_of_methodNamed B.named
  have h := body p e s m below meth c ⟨⟨B.exec, B.bytes, hml, hown, atoms_spec (ws := ws) B.pre⟩, hK, hinj, by rw [hsz]; exact hF, B.notSynchronized, hl0⟩ B.returns hsz
  rw [lg_entry_eq]
  exact h s.heap [] _ hP va_S.rf (lv_entry As hlen)
theorem aS_start {y : MethodName} {ws ws1 : List Cond} {rm : Room} {cc : ByteArray} {maxL mc ms : Nat} {ret : Option FieldType} {Qc : Array Value → State → Outcome → State → Prop} {own : String} {bb L : Nat} {xs : Nat → Int32} (As : List Value) (hy : plainName y.cls = true) (hyo : y.cls = own) (hw : ws = Cond.code y cc maxL ret :: ws1) (hlen : (lg_sl As).length ≤ maxL) (hinj : adI ad) (hl0 : l.stackTraces = false)
    (body : ∀ (p : Program) (e : Env) (s : State) (m : MethodId) (below : List Frame) (meth : Method) (c : Code), AM p l e s m As.toArray meth c own ws cc maxL D X ad → meth.sig.returnType = ret → s.heap.size = sz → va_X bb L xs s s.heap → bb < s.heap.size → ¬ AA ad s.heap.size bb → GG p l e (headSpec ws rm).room s m As.toArray below meth c 0 0 (MQ below Qc As.toArray s mc ms (AA ad sz)) D X ad maxL 0 (lv_args 0 As) [] σ) : Met l y ws rm (va_Pc As (WDS D X ad σ bb L xs sz)) Qc mc ms (AA ad sz) := by
  refine Met.ofW hy hw ?_
  intro p e s m args below meth c s₁ B hml hv
  obtain ⟨rfl, ⟨hsz, hP, hK, hF⟩, hX, hbl, hbA⟩ := hv
  have hown : s.vm.findClass own = some m.cls := hyo ▸ findClass_of_methodNamed B.named
  have h := body p e s m below meth c ⟨⟨B.exec, B.bytes, hml, hown, atoms_spec (ws := ws) B.pre⟩, hK, hinj, by rw [hsz]; exact hF, B.notSynchronized, hl0⟩ B.returns hsz hX (by rw [hsz]; exact hbl) (by rw [hsz]; exact hbA)
  rw [lg_entry_eq]
  exact h s.heap [] _ hP va_S.rf (lv_entry As hlen)
theorem ax_start {y : MethodName} {ws ws1 : List Cond} {rm : Room} {cc : ByteArray} {maxL mc ms : Nat} {ret : Option FieldType} {Qc : Array Value → State → Outcome → State → Prop} {XC : String → State → State → Prop} {own : String} (As : List Value) (hy : plainName y.cls = true) (hyo : y.cls = own) (hw : ws = Cond.code y cc maxL ret :: ws1) (hlen : (lg_sl As).length ≤ maxL) (hinj : adI ad) (hl0 : l.stackTraces = false)
    (body : ∀ (p : Program) (e : Env) (s : State) (m : MethodId) (below : List Frame) (meth : Method) (c : Code), AM p l e s m As.toArray meth c own ws cc maxL D X ad → meth.sig.returnType = ret → (∀ x ∈ c.exceptionTable.toList, False) → s.heap.size = sz → GG p l e (headSpec ws rm).room s m As.toArray below meth c 0 0 (vx_MQ below Qc XC As.toArray s mc ms (AA ad sz)) D X ad maxL 0 (lv_args 0 As) [] σ) : vx_Met l y ws rm (va_Pc As (WD D X ad σ sz)) Qc XC mc ms (AA ad sz) := by
  refine vx_ofW hy hw ?_
  intro p e s m args below meth c s₁ B hml hno hv
  obtain ⟨rfl, hsz, hP, hK, hF⟩ := hv
  have hown : s.vm.findClass own = some m.cls := hyo ▸ findClass_of_methodNamed B.named
  have h := body p e s m below meth c ⟨⟨B.exec, B.bytes, hml, hown, atoms_spec (ws := ws) B.pre⟩, hK, hinj, by rw [hsz]; exact hF, B.notSynchronized, hl0⟩ B.returns hno hsz
  rw [lg_entry_eq]
  exact h s.heap [] _ hP va_S.rf (lv_entry As hlen)
theorem aw_start {y : MethodName} {ws ws1 : List Cond} {rm : Room} {cc : ByteArray} {maxL mc ms : Nat} {ret : Option FieldType} {hh : List (Nat × Nat × Nat × Nat)} {Qc : Array Value → State → Outcome → State → Prop} {own : String} (As : List Value) (hy : plainName y.cls = true) (hyo : y.cls = own) (hw : ws = Cond.codeWith y cc maxL ret hh :: ws1) (hlen : (lg_sl As).length ≤ maxL) (hinj : adI ad) (hl0 : l.stackTraces = false)
    (body : ∀ (p : Program) (e : Env) (s : State) (m : MethodId) (below : List Frame) (meth : Method) (c : Code), AM p l e s m As.toArray meth c own ws cc maxL D X ad → meth.sig.returnType = ret → c.exceptionTable.toList = tableOf hh → s.heap.size = sz → GG p l e (headSpec ws rm).room s m As.toArray below meth c 0 0 (MQ below Qc As.toArray s mc ms (AA ad sz)) D X ad maxL 0 (lv_args 0 As) [] σ) : Met l y ws rm (va_Pc As (WD D X ad σ sz)) Qc mc ms (AA ad sz) := by
  refine va_MetW hy hw ?_
  intro p e s m args below meth c s₁ B hml hv
  obtain ⟨rfl, hsz, hP, hK, hF⟩ := hv
  have hown : s.vm.findClass own = some m.cls := hyo ▸ findClass_of_methodNamed B.named
  have htab : c.exceptionTable.toList = tableOf hh := vx_table (x := y) B (atoms_spec (ws := ws) B.pre _ (by rw [hw]; exact List.mem_cons_self))
  have h := body p e s m below meth c ⟨⟨B.exec, B.bytes, hml, hown, atoms_spec (ws := ws) B.pre⟩, hK, hinj, by rw [hsz]; exact hF, B.notSynchronized, hl0⟩ B.returns htab hsz
  rw [lg_entry_eq]
  exact h s.heap [] _ hP va_S.rf (lv_entry As hlen)
end MACHS
end
