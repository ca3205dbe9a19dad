/-! ===== constructors: a world that grows ===== -/
theorem vc_h : True := trivial
/-- what the constructors need beside their words: links to private constructors of nest mates, rows of references -/
def EXW (U : State) : Prop := va_AO "SightLegend$MapState" U ∧ va_Nw (.methodLinkNest RX6 18 yX1_init RX6) U ∧ va_Nw (.methodLinkNest RX6 31 yX5_init RX6) U ∧ va_Nw (.methodLinkNest RX1 20 yX4_init RX6) U ∧ va_Nw (.methodLinkNest RX1 27 yX2_init RX6) U ∧ va_Nw (.methodLinkNest RX1 37 yX0_init RX6) U
theorem EXW.go {s U : State} (hW : s.WarmedH U.vm) (h : EXW s) : EXW U := ⟨va_AO.moved hW.alike h.1, va_Nw.warmM hW h.2.1, va_Nw.warmM hW h.2.2.1, va_Nw.warmM hW h.2.2.2.1, va_Nw.warmM hW h.2.2.2.2.1, va_Nw.warmM hW h.2.2.2.2.2⟩
def AMK (p : Program) (l : Launch) (e : Env) (s : State) (m : MethodId) (args : Array Value) (meth : Method) (c : Code) (own : String) (Ts : List Cond) (cc : ByteArray) (nL : Nat) (D : va_G) (X : XI) (A : Nat → Prop) : Prop :=
  CallFix p m c cc nL s args Ts own ∧ va_K D vwCl (tysO X) s ∧ (∀ q : Nat, s.heap.size ≤ q → A q) ∧ meth.locks = false ∧ EXW s
def MK (p : Program) (l : Launch) (e : Env) (R : Room) (s : State) (m : MethodId) (args : Array Value) (below : List Frame) (meth : Method) (c : Code) (cells slots : Nat) (Q : State → Prop) (D : va_G) (X : XI) (nL : Nat) (A : Nat → Prop) (pc : Nat) (ls : List (Nat × Value)) (st : List Value) (ws : va_W) : Prop :=
  ∀ (H : Heap) (locs : List Loc) (la : Array Slot), va_P D vwCl ws H → va_D A ws → va_S A s.heap H locs → lv_has la nL ls → W p l e R s m args below meth c H locs cells slots Q (F0 m pc la st)
/-- the object under construction at its place, and what is new -/
def OW (ws : va_W) (pp h ci : Nat) (fs : List Value) (L : va_W) : va_W := ws.set pp (h, .inr (ci, fs)) ++ L
theorem ow_this {ws : va_W} {pp h ci : Nat} {fs : List Value} {L : va_W} (hp : pp < ws.length) : (OW ws pp h ci fs L)[pp]? = some (h, .inr (ci, fs)) := by
  rw [OW, List.getElem?_append_left (by rw [List.length_set]; exact hp), List.getElem?_set_self hp]
theorem ow_new {ws : va_W} {pp h ci j : Nat} {fs : List Value} {L : va_W} : (OW ws pp h ci fs L)[ws.length + j]? = L[j]? := by
  rw [OW, List.getElem?_append_right (by rw [List.length_set]; omega), List.length_set]
  congr 1
  omega
theorem ow_set {ws : va_W} {pp h ci : Nat} {fs fs1 : List Value} {L : va_W} (hp : pp < ws.length) : (OW ws pp h ci fs L).set pp (h, .inr (ci, fs1)) = OW ws pp h ci fs1 L := by
  rw [OW, OW, List.set_append_left _ _ (by rw [List.length_set]; exact hp), List.set_set]
theorem ow_put {ws : va_W} {pp h ci j : Nat} {fs : List Value} {L : va_W} {e : Nat × va_E} : (OW ws pp h ci fs L).set (ws.length + j) e = OW ws pp h ci fs (L.set j e) := by
  rw [OW, OW, List.set_append_right _ _ (by rw [List.length_set]; omega), List.length_set]
  congr 2
  omega
theorem ow_app {ws : va_W} {pp h ci : Nat} {fs : List Value} {L L1 : va_W} : OW ws pp h ci fs L ++ L1 = OW ws pp h ci fs (L ++ L1) := by rw [OW, OW, List.append_assoc]
theorem ow_call {ws : va_W} {pp h ci n q cj : Nat} {fs F : List Value} {L L1 : va_W} : OW (OW ws pp h ci fs L) (ws.length + n) q cj F L1 = OW ws pp h ci fs (L.set n (q, .inr (cj, F)) ++ L1) := by
  show (OW ws pp h ci fs L).set (ws.length + n) (q, .inr (cj, F)) ++ L1 = _
  rw [ow_put, ow_app]
theorem mk_setL {L : va_W} {e e1 : Nat × va_E} : (L ++ [e]).set L.length e1 = L ++ [e1] := by
  rw [List.set_append_right _ _ (Nat.le_refl _), Nat.sub_self]; rfl
theorem ow_last {ws : va_W} {pp h ci : Nat} {fs : List Value} {L : va_W} {e : Nat × va_E} : (OW ws pp h ci fs (L ++ [e]))[ws.length + L.length]? = some e := by
  rw [ow_new, List.getElem?_append_right (Nat.le_refl _), Nat.sub_self]; rfl
theorem mk_same {s : State} {t : String} {c1 c2 : ClassId} (h1 : s.vm.findClass t = some c1) (h2 : s.vm.findClass t = some c2) : c1 = c2 := Option.some.inj (h1.symm.trans h2)
section MAKE
variable {p : Program} {l : Launch} {e : Env} {R : Room} {s : State} {m : MethodId} {args : Array Value} {below : List Frame} {meth : Method} {c : Code} {cells slots : Nat} {Q : State → Prop} {D : va_G} {X : XI} {nL pc : Nat} {A : Nat → Prop} {ls ls1 : List (Nat × Value)} {st : List Value} {ws : va_W} {own : String} {Ts : List Cond} {cc : ByteArray}
variable {pp h ci : Nat} {fs : List Value} {L : va_W}
theorem m_iconst (a : AMK p l e s m args meth c own Ts cc nL D X A) {n : Int} (hdg : decode cc pc = .ok (.iconst n, 1))
    (k : MK p l e R s m args below meth c cells slots Q D X nL A (pc + 1) ls (vI n :: st) ws) : MK p l e R s m args below meth c cells slots Q D X nL A pc ls st ws := by
  intro H locs la hP hD hS hl
  exact lv_iconst a.1.1 a.1.2.1 hdg rfl (k H locs la hP hD hS hl)
theorem m_bipush (a : AMK p l e s m args meth c own Ts cc nL D X A) {n : Int} (hdg : decode cc pc = .ok (.bipush n, 2)) (hn : -128 ≤ n ∧ n < 128)
    (k : MK p l e R s m args below meth c cells slots Q D X nL A (pc + 2) ls (vI n :: st) ws) : MK p l e R s m args below meth c cells slots Q D X nL A pc ls st ws := by
  intro H locs la hP hD hS hl
  refine lv_bipush a.1.1 a.1.2.1 hdg ?_ (k H locs la hP hD hS hl)
  rw [← Int32.toInt_inj, Int8.toInt_toInt32, Int8.toInt_ofInt_of_le (by omega) (by omega), iI_toInt ⟨by omega, by omega⟩]
theorem m_sipush (a : AMK p l e s m args meth c own Ts cc nL D X A) {n : Int} (hdg : decode cc pc = .ok (.sipush n, 3)) (hn : -32768 ≤ n ∧ n < 32768)
    (k : MK p l e R s m args below meth c cells slots Q D X nL A (pc + 3) ls (vI n :: st) ws) : MK p l e R s m args below meth c cells slots Q D X nL A pc ls st ws := by
  intro H locs la hP hD hS hl
  refine lv_sipush a.1.1 a.1.2.1 hdg ?_ (k H locs la hP hD hS hl)
  rw [← Int32.toInt_inj, Int16.toInt_toInt32, Int16.toInt_ofInt_of_le (by omega) (by omega), iI_toInt ⟨by omega, by omega⟩]
theorem m_iload_n (a : AMK p l e s m args meth c own Ts cc nL D X A) {kk : Fin 4} {i : Nat} {x : Int} (j : Nat) (hdg : decode cc pc = .ok (.iload_n kk, 1)) (hi : (kk : Nat) = i) (hj : ls[j]? = some (i, vI x))
    (k : MK p l e R s m args below meth c cells slots Q D X nL A (pc + 1) ls (vI x :: st) ws) : MK p l e R s m args below meth c cells slots Q D X nL A pc ls st ws := by
  intro H locs la hP hD hS hl
  exact lv_iload_n a.1.1 a.1.2.1 hdg hi (lv_at hl j hj) (k H locs la hP hD hS hl)
theorem m_aload_n (a : AMK p l e s m args meth c own Ts cc nL D X A) {kk : Fin 4} {i q : Nat} (j : Nat) (hdg : decode cc pc = .ok (.aload_n kk, 1)) (hi : (kk : Nat) = i) (hj : ls[j]? = some (i, Value.ref q))
    (k : MK p l e R s m args below meth c cells slots Q D X nL A (pc + 1) ls (Value.ref q :: st) ws) : MK p l e R s m args below meth c cells slots Q D X nL A pc ls st ws := by
  intro H locs la hP hD hS hl
  exact lv_aload_n a.1.1 a.1.2.1 hdg hi (lv_at hl j hj) (k H locs la hP hD hS hl)
theorem m_istore_n (a : AMK p l e s m args meth c own Ts cc nL D X A) {kk : Fin 4} {i : Nat} {x : Int} (hdg : decode cc pc = .ok (.istore_n kk, 1)) (hi : (kk : Nat) = i) (hn : i < nL) (hl1 : (i, vI x) :: ls.filter (fun q => !(q.1 == i) && !(q.1 + 1 == i && q.2.category == 2)) = ls1)
    (k : MK p l e R s m args below meth c cells slots Q D X nL A (pc + 1) ls1 st ws) : MK p l e R s m args below meth c cells slots Q D X nL A pc ls (vI x :: st) ws := by
  intro H locs la hP hD hS hl
  exact lv_istore_n a.1.1 a.1.2.1 hdg hi hl hn hl1 (fun la1 hl2 => k H locs la1 hP hD hS hl2)
theorem m_astore_n (a : AMK p l e s m args meth c own Ts cc nL D X A) {kk : Fin 4} {i q : Nat} (hdg : decode cc pc = .ok (.astore_n kk, 1)) (hi : (kk : Nat) = i) (hn : i < nL) (hl1 : (i, Value.ref q) :: ls.filter (fun q => !(q.1 == i) && !(q.1 + 1 == i && q.2.category == 2)) = ls1)
    (k : MK p l e R s m args below meth c cells slots Q D X nL A (pc + 1) ls1 st ws) : MK p l e R s m args below meth c cells slots Q D X nL A pc ls (Value.ref q :: st) ws := by
  intro H locs la hP hD hS hl
  exact lv_astore_n a.1.1 a.1.2.1 hdg hi hl hn hl1 (fun la1 hl2 => k H locs la1 hP hD hS hl2)
theorem m_iinc (a : AMK p l e s m args meth c own Ts cc nL D X A) {i : Nat} {n x y : Int} (j : Nat) (hdg : decode cc pc = .ok (.iinc i n, 3)) (hj : ls[j]? = some (i, vI x)) (hy : x + n = y) (hn : i < nL) (hl1 : (i, vI y) :: ls.filter (fun q => !(q.1 == i) && !(q.1 + 1 == i && q.2.category == 2)) = ls1)
    (k : MK p l e R s m args below meth c cells slots Q D X nL A (pc + 3) ls1 st ws) : MK p l e R s m args below meth c cells slots Q D X nL A pc ls st ws := by
  intro H locs la hP hD hS hl
  subst hy
  exact lv_iinc a.1.1 a.1.2.1 hdg hl hj (Int32.ofInt_add x n).symm hn hl1 (fun la1 hl2 => k H locs la1 hP hD hS hl2)
theorem m_iadd (a : AMK p l e s m args meth c own Ts cc nL D X A) {x y z : Int} (hz : x + y = z) (hdg : decode cc pc = .ok (.iadd, 1))
    (k : MK p l e R s m args below meth c cells slots Q D X nL A (pc + 1) ls (vI z :: st) ws) : MK p l e R s m args below meth c cells slots Q D X nL A pc ls (vI y :: vI x :: st) ws := by
  intro H locs la hP hD hS hl
  subst hz
  refine lv_iadd a.1.1 a.1.2.1 hdg ?_
  have h := k H locs la hP hD hS hl
  rwa [show vI (x + y) = Value.int (iI x + iI y) from congrArg Value.int (Int32.ofInt_add x y)] at h
theorem m_imul (a : AMK p l e s m args meth c own Ts cc nL D X A) {x y z : Int} (hz : x * y = z) (hdg : decode cc pc = .ok (.imul, 1))
    (k : MK p l e R s m args below meth c cells slots Q D X nL A (pc + 1) ls (vI z :: st) ws) : MK p l e R s m args below meth c cells slots Q D X nL A pc ls (vI y :: vI x :: st) ws := by
  intro H locs la hP hD hS hl
  subst hz
  refine lv_imul a.1.1 a.1.2.1 hdg ?_
  have h := k H locs la hP hD hS hl
  rwa [show vI (x * y) = Value.int (iI x * iI y) from congrArg Value.int (Int32.ofInt_mul x y)] at h
theorem m_astore (a : AMK p l e s m args meth c own Ts cc nL D X A) {i q : Nat} (hdg : decode cc pc = .ok (.astore i, 2)) (hn : i < nL) (hl1 : (i, Value.ref q) :: ls.filter (fun q => !(q.1 == i) && !(q.1 + 1 == i && q.2.category == 2)) = ls1)
    (k : MK p l e R s m args below meth c cells slots Q D X nL A (pc + 2) ls1 st ws) : MK p l e R s m args below meth c cells slots Q D X nL A pc ls (Value.ref q :: st) ws := by
  intro H locs la hP hD hS hl
  exact lv_astore a.1.1 a.1.2.1 hdg hl hn hl1 (fun la1 hl2 => k H locs la1 hP hD hS hl2)
theorem m_dup (a : AMK p l e s m args meth c own Ts cc nL D X A) {v : Value} (hv : v.category = 1) (hdg : decode cc pc = .ok (.dup, 1))
    (k : MK p l e R s m args below meth c cells slots Q D X nL A (pc + 1) ls (v :: v :: st) ws) : MK p l e R s m args below meth c cells slots Q D X nL A pc ls (v :: st) ws := by
  intro H locs la hP hD hS hl
  exact lv_dup a.1.1 a.1.2.1 hdg hv (k H locs la hP hD hS hl)
theorem m_goto (a : AMK p l e s m args meth c own Ts cc nL D X A) {off : Int} {tgt : Nat} (hdg : decode cc pc = .ok (.goto off, 3)) (ht : (pc : Int) + off = (tgt : Int))
    (k : MK p l e R s m args below meth c cells slots Q D X nL A tgt ls st ws) : MK p l e R s m args below meth c cells slots Q D X nL A pc ls st ws := by
  intro H locs la hP hD hS hl
  exact lv_goto a.1.1 a.1.2.1 hdg ht (k H locs la hP hD hS hl)
theorem m_geT (a : AMK p l e s m args meth c own Ts cc nL D X A) {x y off : Int} {tgt : Nat} (hx : Rg x) (hy : Rg y) (hq : y ≤ x) (hdg : decode cc pc = .ok (.if_icmp .ge off, 3)) (ht : (pc : Int) + off = (tgt : Int))
    (k : MK p l e R s m args below meth c cells slots Q D X nL A tgt ls st ws) : MK p l e R s m args below meth c cells slots Q D X nL A pc ls (vI y :: vI x :: st) ws := by
  intro H locs la hP hD hS hl
  exact lv_icmp_ge a.1.1 a.1.2.1 hdg ht (fun _ => k H locs la hP hD hS hl) (fun z => absurd ((iI_le hy hx).mpr hq) z)
theorem m_geF (a : AMK p l e s m args meth c own Ts cc nL D X A) {x y off : Int} {tgt : Nat} (hx : Rg x) (hy : Rg y) (hq : ¬ y ≤ x) (hdg : decode cc pc = .ok (.if_icmp .ge off, 3)) (ht : (pc : Int) + off = (tgt : Int))
    (k : MK p l e R s m args below meth c cells slots Q D X nL A (pc + 3) ls st ws) : MK p l e R s m args below meth c cells slots Q D X nL A pc ls (vI y :: vI x :: st) ws := by
  intro H locs la hP hD hS hl
  exact lv_icmp_ge a.1.1 a.1.2.1 hdg ht (fun z => absurd ((iI_le hy hx).mp z) hq) (fun _ => k H locs la hP hD hS hl)
theorem m_obj (a : AMK p l e s m args meth c own Ts cc nL D X A) {ix q : Nat} (h1 : (Cond.methodLink own ix Lib.objectInit).before args s = true) (h2 : (Cond.instanceMethod Lib.objectInit).before args s = true) (h3 : (Cond.code Lib.objectInit ⟨#[0xb1]⟩ 1 none).before args s = true) (hfr : 1 ≤ R.frames) (hlo : (st.map fun v => v.category).sum + 12 ≤ R.locals) (hdg : decode cc pc = .ok (.invokespecial ix, 3))
    (k : MK p l e R s m args below meth c cells slots Q D X nL A (pc + 3) ls st ws) : MK p l e R s m args below meth c cells slots Q D X nL A pc ls (Value.ref q :: st) ws := by
  intro H locs la hP hD hS hl
  refine W.objInit a.1.1 a.1.2.1 a.1.2.2.2.1 h1 h2 h3 rfl (hl.1.trans a.1.2.2.1.symm) rfl hdg hfr ?_ (k H locs la hP hD hS hl)
  show 2 * 0 + _ + 12 ≤ _
  omega
theorem m_newI (a : AMK p l e s m args meth c own Ts cc nL D X A) {n : Nat} {ni : Int} (hn : ni = n) (hn2 : n < 100000) (harr : (Cond.arrayClass .int).before args s = true) (hce : cells + 1 ≤ R.cells) (hsl : slots + n ≤ R.slots) (hdg : decode cc pc = .ok (.newarray .int, 2))
    (k : ∀ q : Nat, MK p l e R s m args below meth c (cells + 1) (slots + n) Q D X nL A (pc + 2) ls (Value.ref q :: st) (OW ws pp h ci fs (L ++ [(q, .inl (X.1, n, .inl (fun _ => iI 0)))]))) : MK p l e R s m args below meth c cells slots Q D X nL A pc ls (vI ni :: st) (OW ws pp h ci fs L) := by
  intro H locs la hP hD hS hl
  subst hn
  have hi : (iI (n : Int)).toInt = n := iI_toInt ⟨by omega, by omega⟩
  have h0 : ¬ iI (n : Int) < 0 := by rw [iI_0, iI_lt ⟨by omega, by omega⟩ ⟨by omega, by omega⟩]; omega
  have h1 : (iI (n : Int)).toNatClampNeg = n := by rw [← Int32.toNat_toInt, hi]; omega
  refine va_newa (atype := .int) a.1.1 a.1.2.1 harr rfl a.2.1 hP hD hS a.2.2.1 (a0 := (n, .inl (fun _ => iI 0))) (N' := n) (fun cA => ?_) h0 h1 (Nat.le_trans (Nat.mul_le_mul_left n (show componentBytes (newarray.typeOf .int) ≤ 8 by decide)) (by omega)) hce hsl hdg (fun q cA H1 hK hP1 hD1 hS1 => ?_)
  · first | rfl | (rw [vp_cell_i]; rfl) | (simp only [vp_cell]; congr 1)
  have e : cA = X.1 := by
    have g1 := (hK.2 3 (cA, .int) rfl).2
    have g2 := (a.2.1.2 0 (X.1, .int) rfl).2
    exact mk_same g1 g2
  subst e
  rw [ow_app] at hP1 hD1
  exact k q H1 locs la hP1 hD1 hS1 hl
theorem m_newZ (a : AMK p l e s m args meth c own Ts cc nL D X A) {n : Nat} {ni : Int} (hn : ni = n) (hn2 : n < 100000) (harr : (Cond.arrayClass .boolean).before args s = true) (hce : cells + 1 ≤ R.cells) (hsl : slots + n ≤ R.slots) (hdg : decode cc pc = .ok (.newarray .boolean, 2))
    (k : ∀ q : Nat, MK p l e R s m args below meth c (cells + 1) (slots + n) Q D X nL A (pc + 2) ls (Value.ref q :: st) (OW ws pp h ci fs (L ++ [(q, .inl (X.2.1, n, .inl (fun _ => iI 0)))]))) : MK p l e R s m args below meth c cells slots Q D X nL A pc ls (vI ni :: st) (OW ws pp h ci fs L) := by
  intro H locs la hP hD hS hl
  subst hn
  have hi : (iI (n : Int)).toInt = n := iI_toInt ⟨by omega, by omega⟩
  have h0 : ¬ iI (n : Int) < 0 := by rw [iI_0, iI_lt ⟨by omega, by omega⟩ ⟨by omega, by omega⟩]; omega
  have h1 : (iI (n : Int)).toNatClampNeg = n := by rw [← Int32.toNat_toInt, hi]; omega
  refine va_newa (atype := .boolean) a.1.1 a.1.2.1 harr rfl a.2.1 hP hD hS a.2.2.1 (a0 := (n, .inl (fun _ => iI 0))) (N' := n) (fun cA => ?_) h0 h1 (Nat.le_trans (Nat.mul_le_mul_left n (show componentBytes (newarray.typeOf .boolean) ≤ 8 by decide)) (by omega)) hce hsl hdg (fun q cA H1 hK hP1 hD1 hS1 => ?_)
  · first | rfl | (rw [vp_cell_i]; rfl) | (simp only [vp_cell]; congr 1)
  have e : cA = X.2.1 := by
    have g1 := (hK.2 3 (cA, .boolean) rfl).2
    have g2 := (a.2.1.2 1 (X.2.1, .boolean) rfl).2
    exact mk_same g1 g2
  subst e
  rw [ow_app] at hP1 hD1
  exact k q H1 locs la hP1 hD1 hS1 hl
theorem m_newq (a : AMK p l e s m args meth c own Ts cc nL D X A) {n ix : Nat} {ni : Int} (hn : ni = n) (hn2 : n < 100000) (hcl : (Cond.classLink own ix "SightLegend$MapState").before args s = true) (hov : va_AO "SightLegend$MapState" s) (hce : cells + 1 ≤ R.cells) (hsl : slots + n ≤ R.slots) (hdg : decode cc pc = .ok (.anewarray ix, 3))
    (k : ∀ q : Nat, MK p l e R s m args below meth c (cells + 1) (slots + n) Q D X nL A (pc + 3) ls (Value.ref q :: st) (OW ws pp h ci fs ((L ++ [(q, .inl (X.2.2, n, .inr (.inr (.inr (.inr (fun _ => none))))))]) ++ []))) : MK p l e R s m args below meth c cells slots Q D X nL A pc ls (vI ni :: st) (OW ws pp h ci fs L) := by
  intro H locs la hP hD hS hl
  subst hn
  have hi : (iI (n : Int)).toInt = n := iI_toInt ⟨by omega, by omega⟩
  have h0 : ¬ iI (n : Int) < 0 := by rw [iI_0, iI_lt ⟨by omega, by omega⟩ ⟨by omega, by omega⟩]; omega
  have h1 : (iI (n : Int)).toNatClampNeg = n := by rw [← Int32.toNat_toInt, hi]; omega
  refine va_newq a.1.1 a.1.2.1 a.1.2.2.2.1 hcl hov a.2.1 hP hD hS a.2.2.1 (N' := n) h0 h1 (by omega) hce hsl hdg (fun q cA H1 hK hP1 hD1 hS1 => ?_)
  have e : cA = X.2.2 := by
    obtain ⟨k1, c1, -, -, -, g1⟩ := (hK.2 3 (cA, .object "SightLegend$MapState") rfl).2
    obtain ⟨k2, c2, -, -, -, g2⟩ := (a.2.1.2 2 (X.2.2, .object "SightLegend$MapState") rfl).2
    exact mk_same g1 g2
  subst e
  rw [ow_app] at hP1 hD1
  rw [← List.append_nil (L ++ _)] at hP1 hD1
  exact k q H1 locs la hP1 hD1 hS1 hl
theorem m_new (a : AMK p l e s m args meth c own Ts cc nL D X A) {C : String} {T : u_T} {N ix cj : Nat} (hin : ∀ w ∈ u_ws C T N, w ∈ Ts) (ty : Nat → FieldType) (hty : ∀ k, k < N → parseFieldDescriptor (T k).2.2.1 = some (ty k)) (hcl : (Cond.classLink own ix C).before args s = true) (hinst : (Cond.instantiable C N).before args s = true) (hini : (Cond.initialized C).before args s = true) (hc : vwCl[cj]? = some (C, T, N)) {gs : List Value} (hfs : ∀ j, j < N → defaultValue (ty j) = vp_V gs j) (hce : cells + 1 ≤ R.cells) (hsl : slots + N ≤ R.slots) (hdg : decode cc pc = .ok (.new ix, 3))
    (k : ∀ q : Nat, MK p l e R s m args below meth c (cells + 1) (slots + N) Q D X nL A (pc + 3) ls (Value.ref q :: st) (OW ws pp h ci fs (L ++ [(q, .inr (cj, gs))]))) : MK p l e R s m args below meth c cells slots Q D X nL A pc ls st (OW ws pp h ci fs L) := by
  intro H locs la hP hD hS hl
  exact va_new a.1.1 a.1.2.1 a.1.2.2.2.2 hin ty hty a.1.2.2.2.1 hcl hinst hini a.2.1 hP hD hS a.2.2.1 hc hfs hce hsl hdg (fun q H1 hP1 hD1 hS1 => k q H1 locs la (ow_app (L := L) ▸ hP1) (ow_app (L := L) ▸ hD1) hS1 hl)
theorem m_get (a : AMK p l e s m args meth c own Ts cc nL D X A) {ix : Nat} (j : Nat) {C : String} {T : u_T} {N : Nat} (hp : pp < ws.length) (hc : vwCl[ci]? = some (C, T, N)) (hin : ∀ w ∈ u_ws C T N, w ∈ Ts) (hlink : (Cond.fieldLink own ix (T j).1 (T j).2.1 (T j).2.2.1).before args s = true) (hj : j < N) {v : Value} (hv : fs[j]? = some v) (hdg : decode cc pc = .ok (.getfield ix, 3))
    (k : MK p l e R s m args below meth c cells slots Q D X nL A (pc + 3) ls (v :: st) (OW ws pp h ci fs L)) : MK p l e R s m args below meth c cells slots Q D X nL A pc ls (Value.ref h :: st) (OW ws pp h ci fs L) := by
  intro H locs la hP hD hS hl
  exact va_get a.1.1 a.1.2.1 a.1.2.2.2.2 hin a.1.2.2.2.1 a.2.1 hP pp (ow_this hp) hc j hj hlink (fun x h => h) hv hdg (k H locs la hP hD hS hl)
theorem m_put (a : AMK p l e s m args meth c own Ts cc nL D X A) {ix : Nat} (j : Nat) {C : String} {T : u_T} {N : Nat} (hp : pp < ws.length) (hc : vwCl[ci]? = some (C, T, N)) (hin : ∀ w ∈ u_ws C T N, w ∈ Ts) (hlink : (Cond.fieldLink own ix (T j).1 (T j).2.1 (T j).2.2.1).before args s = true) (hj : j < N) (ty0 : Nat → FieldType) (hty : ∀ k, k < N → parseFieldDescriptor (T k).2.2.1 = some (ty0 k)) (hnm : ∀ a, a < N → ∀ b, b < N → a ≠ b → (T a).2.1 ≠ (T b).2.1) (hfin : (T j).2.2.2 = false) {ty : FieldType} {v : Value} (hd : parseFieldDescriptor (T j).2.2.1 = some ty) (hn : narrow ty v = v) (hfit : fits ty v = true) (hl0 : j < fs.length) (hdg : decode cc pc = .ok (.putfield ix, 3))
    (k : MK p l e R s m args below meth c cells slots Q D X nL A (pc + 3) ls st (OW ws pp h ci (fs.set j v) L)) : MK p l e R s m args below meth c cells slots Q D X nL A pc ls (v :: Value.ref h :: st) (OW ws pp h ci fs L) := by
  intro H locs la hP hD hS hl
  refine va_put a.1.1 a.1.2.1 a.1.2.2.2.2 hin ty0 hty hnm a.1.2.2.2.1 a.2.1 hP hD hS pp (ow_this hp) hc j hj hlink (fun x h => h) hfin hd hn hfit hl0 hdg (fun H1 locs1 hP1 hD1 hS1 => ?_)
  rw [ow_set hp] at hP1 hD1
  exact k H1 locs1 la hP1 hD1 hS1 hl
theorem m_putF (a : AMK p l e s m args meth c own Ts cc nL D X A) {ix : Nat} (j : Nat) {C : String} {T : u_T} {N : Nat} (hp : pp < ws.length) (hc : vwCl[ci]? = some (C, T, N)) (hin : ∀ w ∈ u_ws C T N, w ∈ Ts) (hlink : (Cond.fieldLink own ix (T j).1 (T j).2.1 (T j).2.2.1).before args s = true) (hj : j < N) (ty0 : Nat → FieldType) (hty : ∀ k, k < N → parseFieldDescriptor (T k).2.2.1 = some (ty0 k)) (hnm : ∀ a, a < N → ∀ b, b < N → a ≠ b → (T a).2.1 ≠ (T b).2.1) (hfin : (T j).2.2.2 = true) (hin2 : meth.name = "<init>") (hdecl : (T j).1 = own) {ty : FieldType} {v : Value} (hd : parseFieldDescriptor (T j).2.2.1 = some ty) (hn : narrow ty v = v) (hfit : fits ty v = true) (hl0 : j < fs.length) (hdg : decode cc pc = .ok (.putfield ix, 3))
    (k : MK p l e R s m args below meth c cells slots Q D X nL A (pc + 3) ls st (OW ws pp h ci (fs.set j v) L)) : MK p l e R s m args below meth c cells slots Q D X nL A pc ls (v :: Value.ref h :: st) (OW ws pp h ci fs L) := by
  intro H locs la hP hD hS hl
  refine va_putF a.1.1 a.1.2.1 a.1.2.2.2.2 hin ty0 hty hnm a.1.2.2.2.1 a.2.1 hP hD hS pp (ow_this hp) hc j hj hlink (fun x h => h) hfin hin2 hdecl hd hn hfit hl0 hdg (fun H1 locs1 hP1 hD1 hS1 => ?_)
  rw [ow_set hp] at hP1 hD1
  exact k H1 locs1 la hP1 hD1 hS1 hl
theorem m_iast (a : AMK p l e s m args meth c own Ts cc nL D X A) {n : Nat} {i x : Int} {q : Nat} {f : Nat → Int32} (j : Nat) (hq : L[j]? = some (q, .inl (X.1, n, .inl f))) (hnn : n < 2147483648) (hi : 0 ≤ i ∧ i < n) (hdg : decode cc pc = .ok (.iastore, 1))
    (k : MK p l e R s m args below meth c cells slots Q D X nL A (pc + 1) ls st (OW ws pp h ci fs (L.set j (q, .inl (X.1, n, .inl (upd f i.toNat (iI x))))))) : MK p l e R s m args below meth c cells slots Q D X nL A pc ls (vI x :: vI i :: Value.ref q :: st) (OW ws pp h ci fs L) := by
  intro H locs la hP hD hS hl
  obtain ⟨hi1, hi2⟩ := iI_in hi hnn
  refine va_iast a.1.1 a.1.2.1 a.2.1 hP hD hS (ws.length + j) 0 (by rw [ow_new]; exact hq) rfl hi1 hdg (fun H1 locs1 hP1 hD1 hS1 => ?_)
  rw [ow_put, hi2] at hP1 hD1
  exact k H1 locs1 la hP1 hD1 hS1 hl
theorem m_iastS (a : AMK p l e s m args meth c own Ts cc nL D X A) {n : Nat} {i x : Int} {q : Nat} {f : Nat → Int32} {L0 : va_W} {j : Nat} (hj : j < L0.length) (hnn : n < 2147483648) (hi : 0 ≤ i ∧ i < n) (hdg : decode cc pc = .ok (.iastore, 1))
    (k : MK p l e R s m args below meth c cells slots Q D X nL A (pc + 1) ls st (OW ws pp h ci fs (L0.set j (q, .inl (X.1, n, .inl (upd f i.toNat (iI x))))))) : MK p l e R s m args below meth c cells slots Q D X nL A pc ls (vI x :: vI i :: Value.ref q :: st) (OW ws pp h ci fs (L0.set j (q, .inl (X.1, n, .inl f)))) := by
  refine m_iast a j (List.getElem?_set_self hj) hnn hi hdg ?_
  rw [List.set_set]
  exact k
theorem m_iastT (a : AMK p l e s m args meth c own Ts cc nL D X A) {n : Nat} {i x : Int} {q : Nat} {f : Nat → Int32} {L0 : va_W} {j j2 : Nat} {e2 : Nat × va_E} (hj : j < L0.length) (hne : j2 ≠ j) (hnn : n < 2147483648) (hi : 0 ≤ i ∧ i < n) (hdg : decode cc pc = .ok (.iastore, 1))
    (k : MK p l e R s m args below meth c cells slots Q D X nL A (pc + 1) ls st (OW ws pp h ci fs ((L0.set j (q, .inl (X.1, n, .inl (upd f i.toNat (iI x))))).set j2 e2))) : MK p l e R s m args below meth c cells slots Q D X nL A pc ls (vI x :: vI i :: Value.ref q :: st) (OW ws pp h ci fs ((L0.set j (q, .inl (X.1, n, .inl f))).set j2 e2)) := by
  refine m_iast a j ((List.getElem?_set_ne hne).trans (List.getElem?_set_self hj)) hnn hi hdg ?_
  rw [List.set_comm _ _ hne, List.set_set]
  exact k
theorem m_astq (a : AMK p l e s m args meth c own Ts cc nL D X A) {i : Int} {q v : Nat} {f : Nat → Option Nat} {vs : List Value} {Y T M : va_W} (hi : 0 ≤ i ∧ i < 4) (hdg : decode cc pc = .ok (.aastore, 1))
    (k : MK p l e R s m args below meth c cells slots Q D X nL A (pc + 1) ls st (OW ws pp h ci fs ((Y ++ [(q, .inl (X.2.2, 4, .inr (.inr (.inr (.inr (va_up f i.toNat (some v)))))))]) ++ ((T ++ [(v, .inr (3, vs))]) ++ M)))) : MK p l e R s m args below meth c cells slots Q D X nL A pc ls (Value.ref v :: vI i :: Value.ref q :: st) (OW ws pp h ci fs (((((Y ++ [(q, .inl (X.2.2, 4, .inr (.inr (.inr (.inr f)))))]) ++ T) ++ [(v, .inr (3, vs))]) ++ M))) := by
  rw [List.append_assoc (_ ++ T), List.append_assoc _ T]
  rw [List.append_assoc T] at k
  intro H locs la hP hD hS hl
  obtain ⟨hi1, hi2⟩ := iI_in (n := 4) hi (by decide)
  refine va_astq a.1.1 a.1.2.1 a.2.1 hP hD hS (ws.length + Y.length) 2 (ws.length + (Y.length + 1 + T.length)) 3 (r := (RX3, TX3, 13)) (vs := vs) (by rw [ow_new, List.append_assoc, List.getElem?_append_right (Nat.le_refl _), Nat.sub_self]; rfl) rfl (by rw [ow_new, List.getElem?_append_right (by simp), List.getElem?_append_right (by simp)]; simp) rfl hi1 hdg (fun H1 locs1 hP1 hD1 hS1 => ?_)
  rw [ow_put, hi2, List.append_assoc, List.set_append_right _ _ (Nat.le_refl _), Nat.sub_self] at hP1 hD1
  rw [List.append_assoc] at k
  exact k H1 locs1 la hP1 hD1 hS1 hl
theorem m_wid (c1 s1 : Nat) (h1 : cells ≤ c1) (h2 : slots ≤ s1) (k : MK p l e R s m args below meth c c1 s1 Q D X nL A pc ls st ws) : MK p l e R s m args below meth c cells slots Q D X nL A pc ls st ws := fun H locs la hP hD hS hl => W.widen h1 h2 (k H locs la hP hD hS hl)
theorem m_eq {ws1 : va_W} (hw : ws = ws1) (k : MK p l e R s m args below meth c cells slots Q D X nL A pc ls st ws1) : MK p l e R s m args below meth c cells slots Q D X nL A pc ls st ws := hw ▸ k
theorem m_nm {ws0 L1 : va_W} {q : Nat} {cI : ClassId} {n : Nat} {f : Nat → Int32} (k : ∀ g : Nat → Int32, g = f → MK p l e R s m args below meth c cells slots Q D X nL A pc ls st (ws0 ++ ((q, .inl (cI, n, .inl g)) :: L1))) : MK p l e R s m args below meth c cells slots Q D X nL A pc ls st (ws0 ++ ((q, .inl (cI, n, .inl f)) :: L1)) := k f rfl
def WC (D : va_G) (X : XI) (ws : va_W) (sz : Nat) : State → Prop := fun U => U.heap.size = sz ∧ va_P D vwCl ws U.heap ∧ va_K D vwCl (tysO X) U ∧ va_D (fun _ => True) ws ∧ EXW U
def QC (D : va_G) (A : Nat → Prop) (W : (Nat → Nat) → va_W) : Array Value → State → Outcome → State → Prop := va_Qv (S := Nat → Nat) (fun _ => True) (fun u t => va_P D vwCl (W u) t.heap ∧ va_D A (W u)) A
theorem m_call (a : AMK p l e s m args meth c own Ts cc nL D X A) {y : MethodName} {bytes : ByteArray} {maxL ix mc ms q : Nat} {w1 : List Cond} {rm : Room} {cj : Nat} {gs : List Value} {F1 : (Nat → Nat) → List Value} {A1 : (Nat → Nat) → va_W} (hM : ∀ sz : Nat, Met l y w1 rm (va_Pc [.ref q] (WC D X (OW ws pp h ci fs (L ++ [(q, .inr (cj, gs))])) sz)) (QC D (va_A (OW ws pp h ci fs (L ++ [(q, .inr (cj, gs))])) sz) (fun u => OW (OW ws pp h ci fs (L ++ [(q, .inr (cj, gs))])) (ws.length + L.length) q cj (F1 u) (A1 u))) mc ms (va_A (OW ws pp h ci fs (L ++ [(q, .inr (cj, gs))])) sz)) (cw : CallB R s args own ix y bytes maxL none w1 rm mc ms 0 ∧ y.name = "<init>" ∧ (Cond.instanceMethod y).before args s = true) (hcat : (st.map fun v => v.category).sum ≤ 8) (hf : cells + mc ≤ R.cells ∧ slots + ms ≤ R.slots) (hdg : decode cc pc = .ok (.invokespecial ix, 3))
    (k : ∀ u : Nat → Nat, MK p l e R s m args below meth c (cells + mc) (slots + ms) Q D X nL A (pc + 3) ls st (OW ws pp h ci fs ((L ++ [(q, .inr (cj, F1 u))]) ++ A1 u))) : MK p l e R s m args below meth c cells slots Q D X nL A pc ls (Value.ref q :: st) (OW ws pp h ci fs (L ++ [(q, .inr (cj, gs))])) := by
  intro H locs la hP hD hS hl
  have hA0 : ∀ x, va_A (OW ws pp h ci fs (L ++ [(q, .inr (cj, gs))])) H.size x → A x := fun x hx => by
    rcases hx with ⟨k1, e1, h1⟩ | h1
    · exact hD.2 k1 _ h1
    · exact a.2.2.1 x (Nat.le_trans hS.1 h1)
  refine va_callv (va_runI (As := []) (rest := st) a.1 (hM H.size) cw ⟨?_, fun U hU hW => ⟨rfl, by rw [hU], by rw [hU]; exact hP, va_K.moved hW.alike a.2.1, hD.weaken (fun _ _ _ _ => trivial), EXW.go hW a.2.2.2.2⟩⟩ rfl rfl hl.1 rfl (lv_room hcat) hdg hf) hS (fun x _ h => hA0 x h) hA0 (fun u t H1 locs1 ht hvm hw hB hz hk hS1 => ?_)
  · rintro a9 U g mk ⟨h1, h2, h3, h4, h5, h6⟩
    exact ⟨h1, h2, h3, va_K.moved (u := U) (U := U.calling g mk a9) (Vm.Alike.refl U.vm) h4, h5, EXW.go (U := U.calling g mk a9) (State.WarmedH.refl U) h6⟩
  · obtain ⟨hP1, hD1⟩ := hB
    simp only [ow_call, mk_setL] at hP1 hD1
    exact k u H1 locs1 la (by rw [← ht]; exact hP1) (hD1.weaken (fun _ _ _ h => hA0 _ h)) hS1 hl
theorem m_callN (a : AMK p l e s m args meth c own Ts cc nL D X A) {y : MethodName} {bytes : ByteArray} {maxL ix mc ms q : Nat} {host : String} {w1 : List Cond} {rm : Room} {cj : Nat} {gs : List Value} {F1 : (Nat → Nat) → List Value} {A1 : (Nat → Nat) → va_W} (hM : ∀ sz : Nat, Met l y w1 rm (va_Pc [.ref q] (WC D X (OW ws pp h ci fs (L ++ [(q, .inr (cj, gs))])) sz)) (QC D (va_A (OW ws pp h ci fs (L ++ [(q, .inr (cj, gs))])) sz) (fun u => OW (OW ws pp h ci fs (L ++ [(q, .inr (cj, gs))])) (ws.length + L.length) q cj (F1 u) (A1 u))) mc ms (va_A (OW ws pp h ci fs (L ++ [(q, .inr (cj, gs))])) sz)) (cw : va_CN R s args own ix y host bytes maxL none w1 rm mc ms 0 ∧ y.name = "<init>" ∧ (Cond.instanceMethod y).before args s = true) (hcat : (st.map fun v => v.category).sum ≤ 8) (hf : cells + mc ≤ R.cells ∧ slots + ms ≤ R.slots) (hdg : decode cc pc = .ok (.invokespecial ix, 3))
    (k : ∀ u : Nat → Nat, MK p l e R s m args below meth c (cells + mc) (slots + ms) Q D X nL A (pc + 3) ls st (OW ws pp h ci fs ((L ++ [(q, .inr (cj, F1 u))]) ++ A1 u))) : MK p l e R s m args below meth c cells slots Q D X nL A pc ls (Value.ref q :: st) (OW ws pp h ci fs (L ++ [(q, .inr (cj, gs))])) := by
  intro H locs la hP hD hS hl
  have hA0 : ∀ x, va_A (OW ws pp h ci fs (L ++ [(q, .inr (cj, gs))])) H.size x → A x := fun x hx => by
    rcases hx with ⟨k1, e1, h1⟩ | h1
    · exact hD.2 k1 _ h1
    · exact a.2.2.1 x (Nat.le_trans hS.1 h1)
  refine va_callv (va_runIN (As := []) (rest := st) a.1 (hM H.size) cw ⟨?_, fun U hU hW => ⟨rfl, by rw [hU], by rw [hU]; exact hP, va_K.moved hW.alike a.2.1, hD.weaken (fun _ _ _ _ => trivial), EXW.go hW a.2.2.2.2⟩⟩ rfl rfl hl.1 rfl (lv_room hcat) hdg hf) hS (fun x _ h => hA0 x h) hA0 (fun u t H1 locs1 ht hvm hw hB hz hk hS1 => ?_)
  · rintro a9 U g mk ⟨h1, h2, h3, h4, h5, h6⟩
    exact ⟨h1, h2, h3, va_K.moved (u := U) (U := U.calling g mk a9) (Vm.Alike.refl U.vm) h4, h5, EXW.go (U := U.calling g mk a9) (State.WarmedH.refl U) h6⟩
  · obtain ⟨hP1, hD1⟩ := hB
    simp only [ow_call, mk_setL] at hP1 hD1
    exact k u H1 locs1 la (by rw [← ht]; exact hP1) (hD1.weaken (fun _ _ _ h => hA0 _ h)) hS1 hl
theorem m_ret (a : AMK p l e s m args meth c own Ts cc nL D X A) {WW1 : (Nat → Nat) → va_W} {mc ms : Nat} (u : Nat → Nat) (hr : meth.sig.returnType = none) (hc : cells ≤ mc) (hs : slots ≤ ms) (hw : ws = WW1 u) (hdg : decode cc pc = .ok (.return_, 1)) : MK p l e R s m args below meth c cells slots (MQ below (QC D A WW1) args s mc ms A) D X nL A pc ls [] ws := by
  intro H locs la hP hD hS hl
  subst hw
  refine W.widen hc hs (W.vret a.1.1 a.1.2.1 hr (fun t ht _ => ⟨⟨u, rfl, trivial, ?_, hD⟩, hS.F ht⟩) (fun q h => hS.2.2 q h) hdg a.2.2.2.1)
  rw [ht]; exact hP
end MAKE
theorem m_start {l : Launch} {D : va_G} {X : XI} {ws : va_W} {sz mc ms q : Nat} {y : MethodName} {w1 w2 : List Cond} {rm : Room} {cc : ByteArray} {maxL : Nat} {own : String} {WW1 : (Nat → Nat) → va_W} (hy : plainName y.cls = true) (hyo : y.cls = own) (hyn : y.name = "<init>") (hw : w1 = Cond.code y cc maxL none :: w2) (hlen : (lg_sl [Value.ref q]).length ≤ maxL)
    (body : ∀ (p : Program) (e : Env) (s : State) (m : MethodId) (below : List Frame) (meth : Method) (c : Code), AMK p l e s m [Value.ref q].toArray meth c own w1 cc maxL D X (va_A ws sz) → meth.sig.returnType = none → meth.name = "<init>" → s.heap.size = sz → MK p l e (headSpec w1 rm).room s m [Value.ref q].toArray below meth c 0 0 (MQ below (QC D (va_A ws sz) WW1) [Value.ref q].toArray s mc ms (va_A ws sz)) D X maxL (va_A ws sz) 0 (lv_args 0 [Value.ref q]) [] ws) : Met l y w1 rm (va_Pc [.ref q] (WC D X ws sz)) (QC D (va_A ws sz) WW1) mc ms (va_A ws sz) := by
  refine Met.ofW hy hw ?_
  intro p e s m args below meth c s₁ B hml hv
  obtain ⟨rfl, hsz, hP, hK, hD, hX⟩ := hv
  have hown : s.vm.findClass own = some m.cls := hyo ▸ findClass_of_methodNamed B.named
  have hn : meth.name = "<init>" := hyn ▸ (name_of_methodNamed B.named B.method).1
  have h := body p e s m below meth c ⟨⟨B.exec, B.bytes, hml, hown, atoms_spec (ws := w1) B.pre⟩, hK, fun x hx => Or.inr (hsz ▸ hx), B.notSynchronized, hX⟩ B.returns hn hsz
  rw [lg_entry_eq]
  exact h s.heap [] _ hP (hD.self) va_S.rf (lv_entry [Value.ref q] hlen)
