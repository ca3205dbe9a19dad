/-! THE WORLD: all cells of the class (0 to 160) and the law's rows (161 g, 162 d, 163 e, 164 x; while they live: 165 old, 166 r); a store: what the cells hold, as whole numbers -/
abbrev vI (x : Int) : Value := .int (iI x)
abbrev vJ (x : Int) : Value := .long (iJ x)
-- fields: 0 a number or a truth value, 1 a long, d + 2 the cell d places behind this object's own
def flds : List (List Nat) := [[0, 0, 0, 0, 0, 0], [0, 3, 4, 0, 0, 5, 12, 23, 34, 0, 0, 0], [0, 3, 4, 5, 6, 7, 8, 9, 10, 0, 0, 11, 0, 12], [3, 4, 5, 6, 7, 0, 8, 9, 10, 11, 12, 13, 14], [3, 4, 5, 6, 7, 8], [3, 0, 4, 0, 0], [3, 16, 49, 62, 95, 110, 0, 0]]
def shps : List (Nat × Nat) := [(10, 0), (7, 0), (0, 40), (0, 40), (0, 40), (0, 40), (0, 40), (0, 12), (0, 12), (0, 12), (0, 60), (0, 5), (0, 5), (0, 4), (5, 0), (1, 40), (1, 40), (8, 0), (0, 12), (0, 72), (0, 12), (0, 72), (0, 72), (0, 72), (6, 0), (0, 77), (0, 77), (0, 77), (0, 77), (0, 77), (0, 77), (0, 77), (0, 77), (0, 12), (1, 5), (6, 0), (0, 77), (0, 77), (0, 77), (0, 77), (0, 77), (0, 77), (0, 77), (0, 77), (0, 12), (1, 5), (4, 0), (7, 0), (0, 40), (0, 40), (0, 40), (0, 40), (0, 40), (0, 12), (0, 12), (0, 12), (0, 60), (0, 5), (0, 5), (0, 4), (5, 0), (1, 40), (1, 40), (8, 0), (0, 12), (0, 72), (0, 12), (0, 72), (0, 72), (0, 72), (6, 0), (0, 77), (0, 77), (0, 77), (0, 77), (0, 77), (0, 77), (0, 77), (0, 77), (0, 12), (1, 5), (6, 0), (0, 77), (0, 77), (0, 77), (0, 77), (0, 77), (0, 77), (0, 77), (0, 77), (0, 12), (1, 5), (4, 0), (9, 0), (0, 160), (7, 0), (0, 40), (0, 40), (0, 40), (0, 40), (0, 40), (0, 12), (0, 12), (0, 12), (0, 60), (0, 5), (0, 5), (0, 4), (2, 109), (7, 0), (0, 40), (0, 40), (0, 40), (0, 40), (0, 40), (0, 12), (0, 12), (0, 12), (0, 60), (0, 5), (0, 5), (0, 4), (7, 0), (0, 40), (0, 40), (0, 40), (0, 40), (0, 40), (0, 12), (0, 12), (0, 12), (0, 60), (0, 5), (0, 5), (0, 4), (7, 0), (0, 40), (0, 40), (0, 40), (0, 40), (0, 40), (0, 12), (0, 12), (0, 12), (0, 60), (0, 5), (0, 5), (0, 4), (7, 0), (0, 40), (0, 40), (0, 40), (0, 40), (0, 40), (0, 12), (0, 12), (0, 12), (0, 60), (0, 5), (0, 5), (0, 4), (0, 15), (0, 32), (0, 60), (0, 64), (0, 64), (0, 12)]
def shp (k : Nat) : Nat × Nat := shps.getD k (99, 0)
def fty (ci j : Nat) : Nat := (flds.getD ci []).getD j 0
def nfl (ci : Nat) : Nat := (flds.getD ci []).length
abbrev XI : Type := ClassId × ClassId × ClassId
def fval (ad : Nat → Nat) (k : Nat) (f : Int → Int) (ci j : Nat) : Value := match fty ci j with
  | 0 => .int (iI (f j))
  | 1 => .long (iJ (f j))
  | d + 2 => .ref (ad (k + d))
def cel (X : XI) (ad : Nat → Nat) (k : Nat) (f : Int → Int) : va_E := match shp k with
  | (0, n) => .inl (X.1, n, .inl (fun j => iI (f j)))
  | (1, n) => .inl (X.2.1, n, .inl (fun j => iI (f j)))
  | (2, n) => .inl (X.2.2, 4, .inr (.inr (.inr (.inr (fun j => some (ad (n + 13 * j)))))))
  | (3, n) => .inl (X.2.2, n, .inr (.inl (fun j => iJ (f j))))
  | (c + 4, _) => .inr (c, (List.range (nfl c)).map (fval ad k f c))
def tysO (X : XI) : List (ClassId × FieldType) := [(X.1, .int), (X.2.1, .boolean), (X.2.2, .object "SightLegend$MapState")]
/-- how many cells there are -/
def nW (ad : Nat → Nat) : Nat := ad 1000
def wsO (X : XI) (ad : Nat → Nat) (σ : St) : va_W := (List.range (nW ad)).map (fun k => (ad k, cel X ad k (σ k)))
def tyc (k : Nat) (t : Nat × Nat) : Prop := k < 165 ∧ shp k = t
def tyw (ad : Nat → Nat) (k : Nat) (t : Nat × Nat) : Prop := k < nW ad ∧ shp k = t
def adI (ad : Nat → Nat) : Prop := (165 ≤ nW ad ∧ nW ad ≤ 167) ∧ ∀ i j : Nat, i < nW ad → j < nW ad → ad i = ad j → i = j
theorem tw {ad : Nat → Nat} (h : adI ad) {k : Nat} {t : Nat × Nat} (hb : tyc k t) : tyw ad k t := ⟨Nat.lt_of_lt_of_le hb.1 h.1.1, hb.2⟩
theorem ty_of {t t1 : Nat × Nat} {d : Nat} (hd : (List.range 165).all (fun k => !(shp k == t) || (decide (k + d < 165) && shp (k + d) == t1)) = true) {b q : Nat} (hq : b + d = q) (h : tyc b t) : tyc q t1 := by
  subst hq
  have h1 := List.all_eq_true.mp hd b (List.mem_range.mpr h.1)
  simp only [h.2, beq_self_eq_true, Bool.not_true, Bool.false_or, Bool.and_eq_true, decide_eq_true_eq, beq_iff_eq] at h1
  exact h1
def AA (ad : Nat → Nat) (sz : Nat) : Nat → Prop := fun q => (∃ k : Nat, k < nW ad ∧ q = ad k) ∨ sz ≤ q
def hset : Nat → Value := fun j => .int (iI (match j with | 0 => 6 | 1 => 4 | 2 => 60 | _ => 20))
def strs : List (Nat × String) := [(54, "the map is full"), (94, "the setting is out of its range"), (108, "there is no such group"), (114, "the limit is out of its range"), (123, "the kind has all its limits"), (155, "there is no such line"), (286, "there is no such sign"), (288, "there is no such kind"), (290, "an argument is out of its range"), (292, "the window has no such size")]
def sups : List String := ["java/lang/RuntimeException", "java/lang/Exception", "java/lang/Throwable"]
def exs : List String := ["java/lang/IndexOutOfBoundsException", "java/lang/IllegalArgumentException", "java/lang/IllegalStateException"]
def StF (A : Nat → Prop) (U : State) (H : Heap) : Prop := vx_Zq Bundle.tN "UNASSIGNED_STACK" Bundle.steD A U H ∧ vx_Zq Bundle.tN "SUPPRESSED_SENTINEL" Bundle.listD A U H ∧ (∃ ht : Nat, va_Z "SightLegend" "HIGHEST_SETTING" "[I" (.ref ht) A U H ∧ va_T .int ht 4 hset A U H) ∧ (∀ q ∈ strs, ∃ sa : Nat, vk_R "SightLegend" q.1 q.2 sa U) ∧ (∀ E ∈ exs, va_Nw (.castable E E) U) ∧ (∀ E ∈ sups, va_Nw (.declares (Bundle.initS E)) U) ∧ ∀ E ∈ exs, ∀ F ∈ exs, E ≠ F → va_Nc E F U
theorem StF.go {A B : Nat → Prop} {s U : State} {H H1 : Heap} (hW : s.WarmedH U.vm) (h : StF A s H) (hq : ∀ a : Nat, a < H.size → ¬ A a → H1[a]? = H[a]?) (hAB : ∀ q, B q → A q) : StF B U H1 := by
  obtain ⟨h1, h2, ⟨ht, h3, h4⟩, h5, h6, h7, h8⟩ := h
  refine ⟨((vx_Zq.moved hW.alike h1).kept hq).narrow hAB, ((vx_Zq.moved hW.alike h2).kept hq).narrow hAB, ⟨ht, ((va_Z.moved hW.alike h3).kept hq).narrow hAB, ((va_T.moved hW.alike h4).kept hq).narrow hAB⟩, fun q hm => ?_, fun E hE => va_Nw.warmC hW (h6 E hE), fun E hE => va_Nw.warmD hW (h7 E hE), fun E hE F hF hn => va_Nc.moved hW.alike (h8 E hE F hF hn)⟩
  obtain ⟨sa, hr⟩ := h5 q hm
  exact ⟨sa, vk_R.warm hW hr⟩
theorem ws_get {X : XI} {ad : Nat → Nat} {σ : St} {k : Nat} (h : k < nW ad) : (wsO X ad σ)[k]? = some (ad k, cel X ad k (σ k)) := by
  simp only [wsO, List.getElem?_map, List.getElem?_range h, Option.map_some]
theorem ws_put {X : XI} {ad : Nat → Nat} {σ σ1 : St} {k : Nat} {e : va_E} (hk : k < nW ad) (h : ∀ j : Nat, j ≠ k → σ1 j = σ j) (he : cel X ad k (σ1 k) = e) : (wsO X ad σ).set k (ad k, e) = wsO X ad σ1 := by
  refine List.ext_getElem? fun j => ?_
  by_cases hj : j < nW ad
  · rw [ws_get hj]
    by_cases e1 : j = k
    · subst e1
      rw [List.getElem?_set_self (by simp [wsO, hk]), he]
    · rw [List.getElem?_set_ne (Ne.symm e1), ws_get hj, h j e1]
  · rw [List.getElem?_eq_none (by simp [wsO]; omega), List.getElem?_eq_none (by simp [wsO]; omega)]
theorem ws_D {X : XI} {ad : Nat → Nat} {σ : St} {sz : Nat} (h : adI ad) : va_D (AA ad sz) (wsO X ad σ) := by
  have lt : ∀ (i : Nat) (q : Nat × va_E), (wsO X ad σ)[i]? = some q → i < nW ad ∧ q.1 = ad i := by
    intro i q hq
    have hi : i < nW ad := by
      have := (List.getElem?_eq_some_iff.mp hq).1
      simpa [wsO] using this
    rw [ws_get hi] at hq
    cases hq
    exact ⟨hi, rfl⟩
  refine ⟨fun i j p q hi hj hpq => ?_, fun k q hk => ?_⟩
  · obtain ⟨h1, h2⟩ := lt i p hi
    obtain ⟨h3, h4⟩ := lt j q hj
    exact h.2 i j h1 h3 (by rw [← h2, ← h4, hpq])
  · obtain ⟨h1, h2⟩ := lt k q hk
    exact Or.inl ⟨k, h1, h2⟩
theorem fv_get {ad : Nat → Nat} {k : Nat} {f : Int → Int} {ci j : Nat} (h : j < nfl ci) : ((List.range (nfl ci)).map (fval ad k f ci))[j]? = some (fval ad k f ci j) := by
  simp only [List.getElem?_map, List.getElem?_range h, Option.map_some]
theorem fv_set {ad : Nat → Nat} {k : Nat} {f g : Int → Int} {ci j : Nat} {v : Value} (h : j < nfl ci) (hg : ∀ i : Int, i ≠ j → g i = f i) (hv : fval ad k g ci j = v) : ((List.range (nfl ci)).map (fval ad k f ci)).set j v = (List.range (nfl ci)).map (fval ad k g ci) := by
  refine List.ext_getElem? fun i => ?_
  by_cases hi : i < nfl ci
  · rw [fv_get hi]
    by_cases e1 : i = j
    · subst e1
      rw [List.getElem?_set_self (by simp [h]), hv]
    · rw [List.getElem?_set_ne (Ne.symm e1), fv_get hi]
      have hx : g (i : Int) = f (i : Int) := hg i (fun q => e1 (Int.ofNat.inj q))
      simp only [fval, hx]
  · rw [List.getElem?_eq_none (by simp; omega), List.getElem?_eq_none (by simp; omega)]
theorem cel0 {X : XI} {ad : Nat → Nat} {k n : Nat} {f : Int → Int} (h : shp k = (0, n)) : cel X ad k f = .inl (X.1, n, .inl (fun j => iI (f j))) := by simp only [cel, h]
theorem cel1 {X : XI} {ad : Nat → Nat} {k n : Nat} {f : Int → Int} (h : shp k = (1, n)) : cel X ad k f = .inl (X.2.1, n, .inl (fun j => iI (f j))) := by simp only [cel, h]
theorem cel2 {X : XI} {ad : Nat → Nat} {k n : Nat} {f : Int → Int} (h : shp k = (2, n)) : cel X ad k f = .inl (X.2.2, 4, .inr (.inr (.inr (.inr (fun j => some (ad (n + 13 * j))))))) := by simp only [cel, h]
theorem celO {X : XI} {ad : Nat → Nat} {k ci : Nat} {f : Int → Int} (h : shp k = (ci + 4, 0)) : cel X ad k f = .inr (ci, (List.range (nfl ci)).map (fval ad k f ci)) := by simp only [cel, h]
theorem iI_toInt {x : Int} (h : Rg x) : (iI x).toInt = x := Int32.toInt_ofInt_of_le (by omega) (by omega)
theorem iI_back (x : Int32) : iI x.toInt = x := Int32.ofInt_toInt x
theorem iI_lt {x y : Int} (hx : Rg x) (hy : Rg y) : iI x < iI y ↔ x < y := by rw [Int32.lt_iff_toInt_lt, iI_toInt hx, iI_toInt hy]
theorem iI_le {x y : Int} (hx : Rg x) (hy : Rg y) : iI x ≤ iI y ↔ x ≤ y := by rw [Int32.le_iff_toInt_le, iI_toInt hx, iI_toInt hy]
theorem iI_eq {x y : Int} (hx : Rg x) (hy : Rg y) : iI x = iI y ↔ x = y := by rw [← Int32.toInt_inj, iI_toInt hx, iI_toInt hy]
theorem iI_0 : (0 : Int32) = iI 0 := by decide +kernel
theorem iI_in {i : Int} {n : Nat} (h : 0 ≤ i ∧ i < n) (hn : n < 2147483648) : vp_in (iI i) n ∧ (iI i).toNatClampNeg = i.toNat := by
  have hr : (iI i).toInt = i := iI_toInt ⟨by omega, by omega⟩
  refine ⟨vp_in_iff.mpr ⟨by omega, by omega⟩, ?_⟩
  rw [← Int32.toNat_toInt, hr]
theorem iI_up {f : Int → Int} {i v : Int} (h : 0 ≤ i) : upd (fun j : Nat => iI (f j)) i.toNat (iI v) = fun j : Nat => iI (if (j : Int) = i then v else f j) := by
  funext j
  by_cases hj : j = i.toNat
  · have q : (j : Int) = i := by omega
    rw [upd, if_pos hj, if_pos q]
  · have q : ¬ (j : Int) = i := by omega
    rw [upd, if_neg hj, if_neg q]
theorem iJ_up {f : Int → Int} {i v : Int} (h : 0 ≤ i) : vp_updL (fun j : Nat => iJ (f j)) i.toNat (iJ v) = fun j : Nat => iJ (if (j : Int) = i then v else f j) := by
  funext j
  by_cases hj : j = i.toNat
  · have q : (j : Int) = i := by omega
    rw [vp_updL, if_pos hj, if_pos q]
  · have q : ¬ (j : Int) = i := by omega
    rw [vp_updL, if_neg hj, if_neg q]
theorem up2_ne {σ : St} {c : Nat} {i v : Int} : ∀ j : Nat, j ≠ c → up2 σ c i v j = σ j := fun j h => by funext i1; simp [up2, h]
theorem bl_nar {x : Int} (h : Bl x) : narrow .boolean (.int (iI x)) = .int (iI x) := by rcases h with rfl | rfl <;> rfl
theorem bl_vp {x : Int} (h : Bl x) : vp_nar .boolean (iI x) = iI x := by rcases h with rfl | rfl <;> rfl
theorem bl_fit {x : Int} (h : Bl x) : fits .boolean (.int (iI x)) = true := by rcases h with rfl | rfl <;> rfl
/-! a cell more -/
def adP (ad : Nat → Nat) (N A : Nat) : Nat → Nat := fun k => if k = N then A else if k = 1000 then N + 1 else ad k
def ckC (k : Nat) : Bool := match shp k with
  | (0, _) => true
  | (1, _) => true
  | (2, n) => n == 109
  | (3, _) => false
  | (c + 4, _) => (List.range (nfl c)).all (fun j => decide (fty c j < 2) || decide (k + (fty c j - 2) < 161))
theorem cel_adP {X : XI} {ad : Nat → Nat} {N A k : Nat} {f : Int → Int} (hN : N = 165 ∨ N = 166) (hk : k < 167) : cel X (adP ad N A) k f = cel X ad k f := by
  have h2 : ∀ j : Nat, adP ad N A (109 + 13 * j) = ad (109 + 13 * j) := fun j => by
    unfold adP
    rw [if_neg (by omega), if_neg (by omega)]
  have hq : ∀ k : Nat, k < 167 → ckC k = true := by decide +kernel
  have h3 := hq k hk
  unfold ckC at h3
  unfold cel
  split
  · rfl
  · rfl
  · rename_i n e
    rw [e] at h3
    have : n = 109 := by simpa using h3
    subst this
    simp only [h2]
  · rename_i n e
    rw [e] at h3
  · rename_i c n e
    rw [e] at h3
    congr 2
    refine List.map_congr_left fun j hj => ?_
    have h4 := List.all_eq_true.mp (by simpa using h3 : (List.range (nfl c)).all (fun j => decide (fty c j < 2) || decide (k + (fty c j - 2) < 161)) = true) j hj
    unfold fval
    split
    · rfl
    · rfl
    · rename_i d e2
      rw [e2] at h4
      have h5 : k + d < 161 := by
        have h6 : d + 1 + 1 < 2 ∨ k + d < 161 := by simpa using h4
        omega
      congr 1
      unfold adP
      rw [if_neg (by omega), if_neg (by omega)]
/-! THE JUDGEMENT -/
def AM (p : Program) (l : Launch) (e : Env) (s : State) (m : MethodId) (args : Array Value) (meth : Method) (c : Code) (own : String) (Ts : List Cond) (cc : ByteArray) (nL : Nat) (D : va_G) (X : XI) (ad : Nat → Nat) : Prop :=
  CallFix p m c cc nL s args Ts own ∧ va_K D vwCl (tysO X) s ∧ adI ad ∧ StF (AA ad s.heap.size) s s.heap ∧ meth.locks = false ∧ l.stackTraces = false
def GG (p : Program) (l : Launch) (e : Env) (R : Room) (s : State) (m : MethodId) (args : Array Value) (below : List Frame) (meth : Method) (c : Code) (cells slots : Nat) (Q : State → Prop) (D : va_G) (X : XI) (ad : Nat → Nat) (nL : Nat) (pc : Nat) (ls : List (Nat × Value)) (st : List Value) (σ : St) : Prop :=
  ∀ (H : Heap) (locs : List Loc) (la : Array Slot), va_P D vwCl (wsO X ad σ) H → va_S (AA ad s.heap.size) s.heap H locs → lv_has la nL ls → W p l e R s m args below meth c H locs cells slots Q (F0 m pc la st)
def WD (D : va_G) (X : XI) (ad : Nat → Nat) (σ : St) (sz : Nat) : State → Prop := fun U => U.heap.size = sz ∧ va_P D vwCl (wsO X ad σ) U.heap ∧ va_K D vwCl (tysO X) U ∧ StF (AA ad sz) U U.heap
def QI (D : va_G) (X : XI) (ad : Nat → Nat) (sz : Nat) (K : Int → St → Prop) : Array Value → State → Outcome → State → Prop := va_Qi (S := Int × St) (fun r u => r = iI u.1 ∧ K u.1 u.2) (fun u t => va_P D vwCl (wsO X ad u.2) t.heap) (AA ad sz)
def QJ (D : va_G) (X : XI) (ad : Nat → Nat) (sz : Nat) (K : Int → St → Prop) : Array Value → State → Outcome → State → Prop := va_Ql (S := Int × St) (fun r u => r = iJ u.1 ∧ K u.1 u.2) (fun u t => va_P D vwCl (wsO X ad u.2) t.heap) (AA ad sz)
def QV (D : va_G) (X : XI) (ad : Nat → Nat) (sz : Nat) (K : St → Prop) : Array Value → State → Outcome → State → Prop := va_Qv (S := St) (fun u => K u) (fun u t => va_P D vwCl (wsO X ad u) t.heap) (AA ad sz)
def QD (D : va_G) (X : XI) (ad : Nat → Nat) (sz : Nat) (K : UInt64 → St → Prop) : Array Value → State → Outcome → State → Prop := va_Qd (S := UInt64 × St) (fun r u => r = u.1 ∧ K u.1 u.2) (fun u t => va_P D vwCl (wsO X ad u.2) t.heap) (AA ad sz)
def eNm (k : Nat) : String := match k with
  | 1 => "java/lang/IndexOutOfBoundsException"
  | 2 => "java/lang/IllegalArgumentException"
  | _ => "java/lang/IllegalStateException"
def XX (D : va_G) (X : XI) (ad : Nat → Nat) (sz : Nat) (Kx : Nat → St → Prop) : String → State → State → Prop := vx_X (S := Nat × St) (fun u => Kx u.1 u.2) (fun E u t => E = eNm u.1 ∧ va_P D vwCl (wsO X ad u.2) t.heap) (AA ad sz)
theorem ex_B {args : Array Value} {s : State} {c : Cond} (h1 : c.before args s = true) (h2 : ∀ E ∈ sups, (Cond.declares (Bundle.initS E)).before args s = true) : ∀ w ∈ c :: sups.map (fun x => Cond.declares (Bundle.initS x)), w.before args s = true := by
  intro w hw
  rcases List.mem_cons.mp hw with rfl | hw
  · exact h1
  · obtain ⟨E, hE, rfl⟩ := List.mem_map.mp hw
    exact h2 E hE
theorem AA_put {ad : Nat → Nat} {sz k : Nat} (h : k < nW ad) : AA ad sz (ad k) := Or.inl ⟨k, h, rfl⟩
theorem AA_sub {ad : Nat → Nat} {s0 s1 q : Nat} (h : s0 ≤ s1) (hq : AA ad s1 q) : AA ad s0 q := hq.elim Or.inl (fun z => Or.inr (Nat.le_trans h z))
section MACH
variable {p : Program} {l : Launch} {e : Env} {R : Room} {s : State} {m : MethodId} {args : Array Value} {below : List Frame} {meth : Method} {c : Code} {cells slots : Nat} {Q : State → Prop} {D : va_G} {X : XI} {ad : Nat → Nat} {nL pc : Nat} {ls ls1 : List (Nat × Value)} {st : List Value} {σ : St} {own : String} {Ts : List Cond} {cc : ByteArray}
theorem a_sub (ks : List Nat) (hp : lv_pick ls ks = ls1) (k : GG p l e R s m args below meth c cells slots Q D X ad nL pc ls1 st σ) : GG p l e R s m args below meth c cells slots Q D X ad nL pc ls st σ := fun H locs la hP hS hl => k H locs la hP hS (lv_sub hl ks hp)
theorem a_iconst (a : AM p l e s m args meth c own Ts cc nL D X ad) {n : Int} (hdg : decode cc pc = .ok (.iconst n, 1))
    (k : GG p l e R s m args below meth c cells slots Q D X ad nL (pc + 1) ls (vI n :: st) σ) : GG p l e R s m args below meth c cells slots Q D X ad nL pc ls (st) σ := by
  intro H locs la hP hS hl
  exact lv_iconst a.1.1 a.1.2.1 hdg rfl (k H locs la hP hS hl)
theorem a_bipush (a : AM p l e s m args meth c own Ts cc nL D X ad) {n : Int} (hdg : decode cc pc = .ok (.bipush n, 2)) (hn : -128 ≤ n ∧ n < 128)
    (k : GG p l e R s m args below meth c cells slots Q D X ad nL (pc + 2) ls (vI n :: st) σ) : GG p l e R s m args below meth c cells slots Q D X ad nL pc ls (st) σ := by
  intro H locs la hP hS hl
  refine lv_bipush a.1.1 a.1.2.1 hdg ?_ (k H locs la hP hS hl)
  rw [← Int32.toInt_inj, Int8.toInt_toInt32, Int8.toInt_ofInt_of_le (by omega) (by omega), iI_toInt ⟨by omega, by omega⟩]
theorem a_sipush (a : AM p l e s m args meth c own Ts cc nL D X ad) {n : Int} (hdg : decode cc pc = .ok (.sipush n, 3)) (hn : -32768 ≤ n ∧ n < 32768)
    (k : GG p l e R s m args below meth c cells slots Q D X ad nL (pc + 3) ls (vI n :: st) σ) : GG p l e R s m args below meth c cells slots Q D X ad nL pc ls (st) σ := by
  intro H locs la hP hS hl
  refine lv_sipush a.1.1 a.1.2.1 hdg ?_ (k H locs la hP hS hl)
  rw [← Int32.toInt_inj, Int16.toInt_toInt32, Int16.toInt_ofInt_of_le (by omega) (by omega), iI_toInt ⟨by omega, by omega⟩]
theorem a_ldc2 (a : AM p l e s m args meth c own Ts cc nL D X ad) {ix : Nat} {n : Int} (hw : (Cond.constantLong own ix (iJ n)).before args s = true) (hdg : decode cc pc = .ok (.ldc2_w ix, 3))
    (k : GG p l e R s m args below meth c cells slots Q D X ad nL (pc + 3) ls (vJ n :: st) σ) : GG p l e R s m args below meth c cells slots Q D X ad nL pc ls (st) σ := by
  intro H locs la hP hS hl
  exact lv_ldc2 a.1.1 a.1.2.1 a.1.2.2.2.1 hw hdg (k H locs la hP hS hl)
theorem a_iload_n (a : AM p l e s m args meth c own Ts cc nL D X ad) {kk : Fin 4} {i : Nat} {x : Int} (j : Nat) (hdg : decode cc pc = .ok (.iload_n kk, 1)) (hi : (kk : Nat) = i) (hj : ls[j]? = some (i, vI x))
    (k : GG p l e R s m args below meth c cells slots Q D X ad nL (pc + 1) ls (vI x :: st) σ) : GG p l e R s m args below meth c cells slots Q D X ad nL pc ls (st) σ := by
  intro H locs la hP hS hl
  exact lv_iload_n a.1.1 a.1.2.1 hdg hi (lv_at hl j hj) (k H locs la hP hS hl)
theorem a_iload (a : AM p l e s m args meth c own Ts cc nL D X ad) {i : Nat} {x : Int} (j : Nat) (hdg : decode cc pc = .ok (.iload i, 2)) (hj : ls[j]? = some (i, vI x))
    (k : GG p l e R s m args below meth c cells slots Q D X ad nL (pc + 2) ls (vI x :: st) σ) : GG p l e R s m args below meth c cells slots Q D X ad nL pc ls (st) σ := by
  intro H locs la hP hS hl
  exact lv_iload a.1.1 a.1.2.1 hdg (lv_at hl j hj) (k H locs la hP hS hl)
theorem a_istore_n (a : AM p l e s m args meth c own Ts cc nL D X ad) {kk : Fin 4} {i : Nat} {x : Int} (hdg : decode cc pc = .ok (.istore_n kk, 1)) (hi : (kk : Nat) = i) (hn : i < nL) (hl1 : (i, vI x) :: ls.filter (fun q => !(q.1 == i) && !(q.1 + 1 == i && q.2.category == 2)) = ls1)
    (k : GG p l e R s m args below meth c cells slots Q D X ad nL (pc + 1) ls1 (st) σ) : GG p l e R s m args below meth c cells slots Q D X ad nL pc ls (vI x :: st) σ := by
  intro H locs la hP hS hl
  exact lv_istore_n a.1.1 a.1.2.1 hdg hi hl hn hl1 (fun la1 hl2 => k H locs la1 hP hS hl2)
theorem a_istore (a : AM p l e s m args meth c own Ts cc nL D X ad) {i : Nat} {x : Int} (hdg : decode cc pc = .ok (.istore i, 2)) (hn : i < nL) (hl1 : (i, vI x) :: ls.filter (fun q => !(q.1 == i) && !(q.1 + 1 == i && q.2.category == 2)) = ls1)
    (k : GG p l e R s m args below meth c cells slots Q D X ad nL (pc + 2) ls1 (st) σ) : GG p l e R s m args below meth c cells slots Q D X ad nL pc ls (vI x :: st) σ := by
  intro H locs la hP hS hl
  exact lv_istore a.1.1 a.1.2.1 hdg hl hn hl1 (fun la1 hl2 => k H locs la1 hP hS hl2)
theorem a_lload_n (a : AM p l e s m args meth c own Ts cc nL D X ad) {kk : Fin 4} {i : Nat} {x : Int} (j : Nat) (hdg : decode cc pc = .ok (.lload_n kk, 1)) (hi : (kk : Nat) = i) (hj : ls[j]? = some (i, vJ x))
    (k : GG p l e R s m args below meth c cells slots Q D X ad nL (pc + 1) ls (vJ x :: st) σ) : GG p l e R s m args below meth c cells slots Q D X ad nL pc ls (st) σ := by
  intro H locs la hP hS hl
  exact lv_lload_n a.1.1 a.1.2.1 hdg hi (lv_at hl j hj) (k H locs la hP hS hl)
theorem a_lload (a : AM p l e s m args meth c own Ts cc nL D X ad) {i : Nat} {x : Int} (j : Nat) (hdg : decode cc pc = .ok (.lload i, 2)) (hj : ls[j]? = some (i, vJ x))
    (k : GG p l e R s m args below meth c cells slots Q D X ad nL (pc + 2) ls (vJ x :: st) σ) : GG p l e R s m args below meth c cells slots Q D X ad nL pc ls (st) σ := by
  intro H locs la hP hS hl
  exact lv_lload a.1.1 a.1.2.1 hdg (lv_at hl j hj) (k H locs la hP hS hl)
theorem a_lstore_n (a : AM p l e s m args meth c own Ts cc nL D X ad) {kk : Fin 4} {i : Nat} {x : Int} (hdg : decode cc pc = .ok (.lstore_n kk, 1)) (hi : (kk : Nat) = i) (hn : i + 1 < nL) (hl1 : (i, vJ x) :: ls.filter (fun q => !(q.1 == i) && (!(q.1 == i + 1) && !(q.1 + 1 == i && q.2.category == 2))) = ls1)
    (k : GG p l e R s m args below meth c cells slots Q D X ad nL (pc + 1) ls1 (st) σ) : GG p l e R s m args below meth c cells slots Q D X ad nL pc ls (vJ x :: st) σ := by
  intro H locs la hP hS hl
  exact lv_lstore_n a.1.1 a.1.2.1 hdg hi hl hn hl1 (fun la1 hl2 => k H locs la1 hP hS hl2)
theorem a_lstore (a : AM p l e s m args meth c own Ts cc nL D X ad) {i : Nat} {x : Int} (hdg : decode cc pc = .ok (.lstore i, 2)) (hn : i + 1 < nL) (hl1 : (i, vJ x) :: ls.filter (fun q => !(q.1 == i) && (!(q.1 == i + 1) && !(q.1 + 1 == i && q.2.category == 2))) = ls1)
    (k : GG p l e R s m args below meth c cells slots Q D X ad nL (pc + 2) ls1 (st) σ) : GG p l e R s m args below meth c cells slots Q D X ad nL pc ls (vJ x :: st) σ := by
  intro H locs la hP hS hl
  exact lv_lstore a.1.1 a.1.2.1 hdg hl hn hl1 (fun la1 hl2 => k H locs la1 hP hS hl2)
theorem a_aload_n (a : AM p l e s m args meth c own Ts cc nL D X ad) {kk : Fin 4} {i : Nat} {q : Nat} (j : Nat) (hdg : decode cc pc = .ok (.aload_n kk, 1)) (hi : (kk : Nat) = i) (hj : ls[j]? = some (i, Value.ref q))
    (k : GG p l e R s m args below meth c cells slots Q D X ad nL (pc + 1) ls (Value.ref q :: st) σ) : GG p l e R s m args below meth c cells slots Q D X ad nL pc ls (st) σ := by
  intro H locs la hP hS hl
  exact lv_aload_n a.1.1 a.1.2.1 hdg hi (lv_at hl j hj) (k H locs la hP hS hl)
theorem a_aload (a : AM p l e s m args meth c own Ts cc nL D X ad) {i : Nat} {q : Nat} (j : Nat) (hdg : decode cc pc = .ok (.aload i, 2)) (hj : ls[j]? = some (i, Value.ref q))
    (k : GG p l e R s m args below meth c cells slots Q D X ad nL (pc + 2) ls (Value.ref q :: st) σ) : GG p l e R s m args below meth c cells slots Q D X ad nL pc ls (st) σ := by
  intro H locs la hP hS hl
  exact lv_aload a.1.1 a.1.2.1 hdg (lv_at hl j hj) (k H locs la hP hS hl)
theorem a_astore_n (a : AM p l e s m args meth c own Ts cc nL D X ad) {kk : Fin 4} {i : Nat} {q : Nat} (hdg : decode cc pc = .ok (.astore_n kk, 1)) (hi : (kk : Nat) = i) (hn : i < nL) (hl1 : (i, Value.ref q) :: ls.filter (fun q => !(q.1 == i) && !(q.1 + 1 == i && q.2.category == 2)) = ls1)
    (k : GG p l e R s m args below meth c cells slots Q D X ad nL (pc + 1) ls1 (st) σ) : GG p l e R s m args below meth c cells slots Q D X ad nL pc ls (Value.ref q :: st) σ := by
  intro H locs la hP hS hl
  exact lv_astore_n a.1.1 a.1.2.1 hdg hi hl hn hl1 (fun la1 hl2 => k H locs la1 hP hS hl2)
theorem a_astore (a : AM p l e s m args meth c own Ts cc nL D X ad) {i : Nat} {q : Nat} (hdg : decode cc pc = .ok (.astore i, 2)) (hn : i < nL) (hl1 : (i, Value.ref q) :: ls.filter (fun q => !(q.1 == i) && !(q.1 + 1 == i && q.2.category == 2)) = ls1)
    (k : GG p l e R s m args below meth c cells slots Q D X ad nL (pc + 2) ls1 (st) σ) : GG p l e R s m args below meth c cells slots Q D X ad nL pc ls (Value.ref q :: st) σ := by
  intro H locs la hP hS hl
  exact lv_astore a.1.1 a.1.2.1 hdg hl hn hl1 (fun la1 hl2 => k H locs la1 hP hS hl2)
theorem a_iinc (a : AM p l e s m args meth c own Ts cc nL D X ad) {i : Nat} {n x : Int} (j : Nat) (hdg : decode cc pc = .ok (.iinc i n, 3)) (hj : ls[j]? = some (i, vI x)) (hn : i < nL) (hl1 : (i, vI (x + n)) :: ls.filter (fun q => !(q.1 == i) && !(q.1 + 1 == i && q.2.category == 2)) = ls1)
    (k : GG p l e R s m args below meth c cells slots Q D X ad nL (pc + 3) ls1 (st) σ) : GG p l e R s m args below meth c cells slots Q D X ad nL pc ls (st) σ := by
  intro H locs la hP hS hl
  exact lv_iinc a.1.1 a.1.2.1 hdg hl hj (Int32.ofInt_add x n).symm hn hl1 (fun la1 hl2 => k H locs la1 hP hS hl2)
theorem a_iadd (a : AM p l e s m args meth c own Ts cc nL D X ad) {x y : Int} (hdg : decode cc pc = .ok (.iadd, 1))
    (k : GG p l e R s m args below meth c cells slots Q D X ad nL (pc + 1) ls (vI (x + y) :: st) σ) : GG p l e R s m args below meth c cells slots Q D X ad nL pc ls (vI y :: vI x :: st) σ := by
  intro H locs la hP hS hl
  refine lv_iadd a.1.1 a.1.2.1 hdg ?_
  have h := k H locs la hP hS hl
  rwa [show vI (x + y) = Value.int (iI x + iI y) from congrArg Value.int (Int32.ofInt_add x y)] at h
theorem a_isub (a : AM p l e s m args meth c own Ts cc nL D X ad) {x y : Int} (hdg : decode cc pc = .ok (.isub, 1))
    (k : GG p l e R s m args below meth c cells slots Q D X ad nL (pc + 1) ls (vI (x - y) :: st) σ) : GG p l e R s m args below meth c cells slots Q D X ad nL pc ls (vI y :: vI x :: st) σ := by
  intro H locs la hP hS hl
  refine lv_isub a.1.1 a.1.2.1 hdg ?_
  have h := k H locs la hP hS hl
  rwa [show vI (x - y) = Value.int (iI x - iI y) from congrArg Value.int (Int32.ofInt_sub x y)] at h
theorem a_imul (a : AM p l e s m args meth c own Ts cc nL D X ad) {x y : Int} (hdg : decode cc pc = .ok (.imul, 1))
    (k : GG p l e R s m args below meth c cells slots Q D X ad nL (pc + 1) ls (vI (x * y) :: st) σ) : GG p l e R s m args below meth c cells slots Q D X ad nL pc ls (vI y :: vI x :: st) σ := by
  intro H locs la hP hS hl
  refine lv_imul a.1.1 a.1.2.1 hdg ?_
  have h := k H locs la hP hS hl
  rwa [show vI (x * y) = Value.int (iI x * iI y) from congrArg Value.int (Int32.ofInt_mul x y)] at h
theorem a_ladd (a : AM p l e s m args meth c own Ts cc nL D X ad) {x y : Int} (hdg : decode cc pc = .ok (.ladd, 1))
    (k : GG p l e R s m args below meth c cells slots Q D X ad nL (pc + 1) ls (vJ (x + y) :: st) σ) : GG p l e R s m args below meth c cells slots Q D X ad nL pc ls (vJ y :: vJ x :: st) σ := by
  intro H locs la hP hS hl
  refine lv_ladd a.1.1 a.1.2.1 hdg ?_
  have h := k H locs la hP hS hl
  rwa [show vJ (x + y) = Value.long (iJ x + iJ y) from congrArg Value.long (Int64.ofInt_add x y)] at h
theorem a_lmul (a : AM p l e s m args meth c own Ts cc nL D X ad) {x y : Int} (hdg : decode cc pc = .ok (.lmul, 1))
    (k : GG p l e R s m args below meth c cells slots Q D X ad nL (pc + 1) ls (vJ (x * y) :: st) σ) : GG p l e R s m args below meth c cells slots Q D X ad nL pc ls (vJ y :: vJ x :: st) σ := by
  intro H locs la hP hS hl
  refine lv_lmul a.1.1 a.1.2.1 hdg ?_
  have h := k H locs la hP hS hl
  rwa [show vJ (x * y) = Value.long (iJ x * iJ y) from congrArg Value.long (Int64.ofInt_mul x y)] at h
theorem a_idiv (a : AM p l e s m args meth c own Ts cc nL D X ad) {x y : Int} (hdg : decode cc pc = .ok (.idiv, 1)) (hx : 0 ≤ x ∧ x ≤ 2147483647) (hy : 0 < y ∧ y ≤ 2147483647)
    (k : GG p l e R s m args below meth c cells slots Q D X ad nL (pc + 1) ls (vI (x / y) :: st) σ) : GG p l e R s m args below meth c cells slots Q D X ad nL pc ls (vI y :: vI x :: st) σ := by
  intro H locs la hP hS hl
  have hne : ¬ iI y = 0 := by rw [iI_0, iI_eq ⟨by omega, by omega⟩ ⟨by omega, by omega⟩]; omega
  refine lv_idiv a.1.1 a.1.2.1 hdg hne ?_
  have h := k H locs la hP hS hl
  rwa [show vI (x / y) = Value.int (iI x / iI y) by
    refine congrArg Value.int ?_
    rw [← Int.tdiv_eq_ediv_of_nonneg hx.1]
    exact Int32.ofInt_tdiv (by have : Int32.minValue.toInt = -2147483648 := by decide
                               omega) (by have : Int32.maxValue.toInt = 2147483647 := by decide
                                          omega) (by have : Int32.minValue.toInt = -2147483648 := by decide
                                                     omega) (by have : Int32.maxValue.toInt = 2147483647 := by decide
                                                                omega)] at h
theorem a_irem (a : AM p l e s m args meth c own Ts cc nL D X ad) {x y : Int} (hdg : decode cc pc = .ok (.irem, 1)) (hx : 0 ≤ x ∧ x ≤ 2147483647) (hy : 0 < y ∧ y ≤ 2147483647)
    (k : GG p l e R s m args below meth c cells slots Q D X ad nL (pc + 1) ls (vI (x % y) :: st) σ) : GG p l e R s m args below meth c cells slots Q D X ad nL pc ls (vI y :: vI x :: st) σ := by
  intro H locs la hP hS hl
  have hne : ¬ iI y = 0 := by rw [iI_0, iI_eq ⟨by omega, by omega⟩ ⟨by omega, by omega⟩]; omega
  refine lv_irem a.1.1 a.1.2.1 hdg hne ?_
  have h := k H locs la hP hS hl
  have hd : iI (x / y) = iI x / iI y := by
    rw [← Int.tdiv_eq_ediv_of_nonneg hx.1]
    exact Int32.ofInt_tdiv (by have : Int32.minValue.toInt = -2147483648 := by decide
                               omega) (by have : Int32.maxValue.toInt = 2147483647 := by decide
                                          omega) (by have : Int32.minValue.toInt = -2147483648 := by decide
                                                     omega) (by have : Int32.maxValue.toInt = 2147483647 := by decide
                                                                omega)
  have e : iI (x % y) = iI x - iI x / iI y * iI y := by
    rw [← hd]
    have : x % y = x - x / y * y := by rw [Int.mul_comm]; have := Int.emod_add_mul_ediv x y; omega
    rw [this]
    show Int32.ofInt _ = _
    rw [Int32.ofInt_sub, Int32.ofInt_mul]
    rfl
  rwa [show vI (x % y) = Value.int (iI x - iI x / iI y * iI y) from congrArg Value.int e] at h
theorem a_i2l (a : AM p l e s m args meth c own Ts cc nL D X ad) {x : Int} (hx : Rg x) (hdg : decode cc pc = .ok (.i2l, 1))
    (k : GG p l e R s m args below meth c cells slots Q D X ad nL (pc + 1) ls (vJ x :: st) σ) : GG p l e R s m args below meth c cells slots Q D X ad nL pc ls (vI x :: st) σ := by
  intro H locs la hP hS hl
  refine lv_i2l a.1.1 a.1.2.1 hdg ?_ (k H locs la hP hS hl)
  rw [← Int64.toInt_inj, Int32.toInt_toInt64, iI_toInt hx]
  exact (Int64.toInt_ofInt_of_le (by omega) (by omega)).symm
theorem a_dup (a : AM p l e s m args meth c own Ts cc nL D X ad) {v : Value} (hv : v.category = 1) (hdg : decode cc pc = .ok (.dup, 1))
    (k : GG p l e R s m args below meth c cells slots Q D X ad nL (pc + 1) ls (v :: v :: st) σ) : GG p l e R s m args below meth c cells slots Q D X ad nL pc ls (v :: st) σ := by
  intro H locs la hP hS hl
  exact lv_dup a.1.1 a.1.2.1 hdg hv (k H locs la hP hS hl)
theorem a_dup2 (a : AM p l e s m args meth c own Ts cc nL D X ad) {v v1 : Value} (hv : v.category = 1) (hv1 : v1.category = 1) (hdg : decode cc pc = .ok (.dup2, 1))
    (k : GG p l e R s m args below meth c cells slots Q D X ad nL (pc + 1) ls (v :: v1 :: v :: v1 :: st) σ) : GG p l e R s m args below meth c cells slots Q D X ad nL pc ls (v :: v1 :: st) σ := by
  intro H locs la hP hS hl
  exact lv_dup2_11 a.1.1 a.1.2.1 hdg hv hv1 (k H locs la hP hS hl)
theorem a_icmp_eq (a : AM p l e s m args meth c own Ts cc nL D X ad) {x y : Int} {off : Int} {tgt : Nat} (hx : Rg x) (hy : Rg y) (hdg : decode cc pc = .ok (.if_icmp .eq off, 3)) (ht : (pc : Int) + off = (tgt : Int))
    (kt : x = y → GG p l e R s m args below meth c cells slots Q D X ad nL tgt ls st σ) (kf : ¬ x = y → GG p l e R s m args below meth c cells slots Q D X ad nL (pc + 3) ls st σ) : GG p l e R s m args below meth c cells slots Q D X ad nL pc ls (vI y :: vI x :: st) σ := by
  intro H locs la hP hS hl
  refine lv_icmp_eq a.1.1 a.1.2.1 hdg ht (fun z => kt ?_ H locs la hP hS hl) (fun z => kf (fun q => z ?_) H locs la hP hS hl)
  · exact (iI_eq hx hy).mp z
  · exact (iI_eq hx hy).mpr q
theorem a_if_eq (a : AM p l e s m args meth c own Ts cc nL D X ad) {x : Int} {off : Int} {tgt : Nat} (hx : Rg x) (hdg : decode cc pc = .ok (.ifCond .eq off, 3)) (ht : (pc : Int) + off = (tgt : Int))
    (kt : x = 0 → GG p l e R s m args below meth c cells slots Q D X ad nL tgt ls st σ) (kf : ¬ x = 0 → GG p l e R s m args below meth c cells slots Q D X ad nL (pc + 3) ls st σ) : GG p l e R s m args below meth c cells slots Q D X ad nL pc ls (vI x :: st) σ := by
  intro H locs la hP hS hl
  refine lv_if_eq a.1.1 a.1.2.1 hdg ht (fun z => kt ?_ H locs la hP hS hl) (fun z => kf (fun q => z ?_) H locs la hP hS hl)
  · rw [iI_0] at z; exact (iI_eq hx ⟨by decide, by decide⟩).mp z
  · rw [iI_0]; exact (iI_eq hx ⟨by decide, by decide⟩).mpr q
theorem a_icmp_ne (a : AM p l e s m args meth c own Ts cc nL D X ad) {x y : Int} {off : Int} {tgt : Nat} (hx : Rg x) (hy : Rg y) (hdg : decode cc pc = .ok (.if_icmp .ne off, 3)) (ht : (pc : Int) + off = (tgt : Int))
    (kt : x ≠ y → GG p l e R s m args below meth c cells slots Q D X ad nL tgt ls st σ) (kf : ¬ x ≠ y → GG p l e R s m args below meth c cells slots Q D X ad nL (pc + 3) ls st σ) : GG p l e R s m args below meth c cells slots Q D X ad nL pc ls (vI y :: vI x :: st) σ := by
  intro H locs la hP hS hl
  refine lv_icmp_ne a.1.1 a.1.2.1 hdg ht (fun z => kt (fun q => z ?_) H locs la hP hS hl) (fun z => kf (fun q => q ?_) H locs la hP hS hl)
  · exact (iI_eq hx hy).mpr q
  · exact (iI_eq hx hy).mp z
theorem a_if_ne (a : AM p l e s m args meth c own Ts cc nL D X ad) {x : Int} {off : Int} {tgt : Nat} (hx : Rg x) (hdg : decode cc pc = .ok (.ifCond .ne off, 3)) (ht : (pc : Int) + off = (tgt : Int))
    (kt : x ≠ 0 → GG p l e R s m args below meth c cells slots Q D X ad nL tgt ls st σ) (kf : ¬ x ≠ 0 → GG p l e R s m args below meth c cells slots Q D X ad nL (pc + 3) ls st σ) : GG p l e R s m args below meth c cells slots Q D X ad nL pc ls (vI x :: st) σ := by
  intro H locs la hP hS hl
  refine lv_if_ne a.1.1 a.1.2.1 hdg ht (fun z => kt (fun q => z ?_) H locs la hP hS hl) (fun z => kf (fun q => q ?_) H locs la hP hS hl)
  · rw [iI_0]; exact (iI_eq hx ⟨by decide, by decide⟩).mpr q
  · rw [iI_0] at z; exact (iI_eq hx ⟨by decide, by decide⟩).mp z
theorem a_icmp_lt (a : AM p l e s m args meth c own Ts cc nL D X ad) {x y : Int} {off : Int} {tgt : Nat} (hx : Rg x) (hy : Rg y) (hdg : decode cc pc = .ok (.if_icmp .lt off, 3)) (ht : (pc : Int) + off = (tgt : Int))
    (kt : x < y → GG p l e R s m args below meth c cells slots Q D X ad nL tgt ls st σ) (kf : ¬ x < y → GG p l e R s m args below meth c cells slots Q D X ad nL (pc + 3) ls st σ) : GG p l e R s m args below meth c cells slots Q D X ad nL pc ls (vI y :: vI x :: st) σ := by
  intro H locs la hP hS hl
  refine lv_icmp_lt a.1.1 a.1.2.1 hdg ht (fun z => kt ?_ H locs la hP hS hl) (fun z => kf (fun q => z ?_) H locs la hP hS hl)
  · exact (iI_lt hx hy).mp z
  · exact (iI_lt hx hy).mpr q
theorem a_if_lt (a : AM p l e s m args meth c own Ts cc nL D X ad) {x : Int} {off : Int} {tgt : Nat} (hx : Rg x) (hdg : decode cc pc = .ok (.ifCond .lt off, 3)) (ht : (pc : Int) + off = (tgt : Int))
    (kt : x < 0 → GG p l e R s m args below meth c cells slots Q D X ad nL tgt ls st σ) (kf : ¬ x < 0 → GG p l e R s m args below meth c cells slots Q D X ad nL (pc + 3) ls st σ) : GG p l e R s m args below meth c cells slots Q D X ad nL pc ls (vI x :: st) σ := by
  intro H locs la hP hS hl
  refine lv_if_lt a.1.1 a.1.2.1 hdg ht (fun z => kt ?_ H locs la hP hS hl) (fun z => kf (fun q => z ?_) H locs la hP hS hl)
  · rw [iI_0] at z; exact (iI_lt hx ⟨by decide, by decide⟩).mp z
  · rw [iI_0]; exact (iI_lt hx ⟨by decide, by decide⟩).mpr q
theorem a_icmp_ge (a : AM p l e s m args meth c own Ts cc nL D X ad) {x y : Int} {off : Int} {tgt : Nat} (hx : Rg x) (hy : Rg y) (hdg : decode cc pc = .ok (.if_icmp .ge off, 3)) (ht : (pc : Int) + off = (tgt : Int))
    (kt : x ≥ y → GG p l e R s m args below meth c cells slots Q D X ad nL tgt ls st σ) (kf : ¬ x ≥ y → GG p l e R s m args below meth c cells slots Q D X ad nL (pc + 3) ls st σ) : GG p l e R s m args below meth c cells slots Q D X ad nL pc ls (vI y :: vI x :: st) σ := by
  intro H locs la hP hS hl
  refine lv_icmp_ge a.1.1 a.1.2.1 hdg ht (fun z => kt ?_ H locs la hP hS hl) (fun z => kf (fun q => z ?_) H locs la hP hS hl)
  · exact (iI_le hy hx).mp z
  · exact (iI_le hy hx).mpr q
theorem a_if_ge (a : AM p l e s m args meth c own Ts cc nL D X ad) {x : Int} {off : Int} {tgt : Nat} (hx : Rg x) (hdg : decode cc pc = .ok (.ifCond .ge off, 3)) (ht : (pc : Int) + off = (tgt : Int))
    (kt : x ≥ 0 → GG p l e R s m args below meth c cells slots Q D X ad nL tgt ls st σ) (kf : ¬ x ≥ 0 → GG p l e R s m args below meth c cells slots Q D X ad nL (pc + 3) ls st σ) : GG p l e R s m args below meth c cells slots Q D X ad nL pc ls (vI x :: st) σ := by
  intro H locs la hP hS hl
  refine lv_if_ge a.1.1 a.1.2.1 hdg ht (fun z => kt ?_ H locs la hP hS hl) (fun z => kf (fun q => z ?_) H locs la hP hS hl)
  · rw [iI_0] at z; exact (iI_le ⟨by decide, by decide⟩ hx).mp z
  · rw [iI_0]; exact (iI_le ⟨by decide, by decide⟩ hx).mpr q
theorem a_icmp_gt (a : AM p l e s m args meth c own Ts cc nL D X ad) {x y : Int} {off : Int} {tgt : Nat} (hx : Rg x) (hy : Rg y) (hdg : decode cc pc = .ok (.if_icmp .gt off, 3)) (ht : (pc : Int) + off = (tgt : Int))
    (kt : x > y → GG p l e R s m args below meth c cells slots Q D X ad nL tgt ls st σ) (kf : ¬ x > y → GG p l e R s m args below meth c cells slots Q D X ad nL (pc + 3) ls st σ) : GG p l e R s m args below meth c cells slots Q D X ad nL pc ls (vI y :: vI x :: st) σ := by
  intro H locs la hP hS hl
  refine lv_icmp_gt a.1.1 a.1.2.1 hdg ht (fun z => kt ?_ H locs la hP hS hl) (fun z => kf (fun q => z ?_) H locs la hP hS hl)
  · exact (iI_lt hy hx).mp z
  · exact (iI_lt hy hx).mpr q
theorem a_if_gt (a : AM p l e s m args meth c own Ts cc nL D X ad) {x : Int} {off : Int} {tgt : Nat} (hx : Rg x) (hdg : decode cc pc = .ok (.ifCond .gt off, 3)) (ht : (pc : Int) + off = (tgt : Int))
    (kt : x > 0 → GG p l e R s m args below meth c cells slots Q D X ad nL tgt ls st σ) (kf : ¬ x > 0 → GG p l e R s m args below meth c cells slots Q D X ad nL (pc + 3) ls st σ) : GG p l e R s m args below meth c cells slots Q D X ad nL pc ls (vI x :: st) σ := by
  intro H locs la hP hS hl
  refine lv_if_gt a.1.1 a.1.2.1 hdg ht (fun z => kt ?_ H locs la hP hS hl) (fun z => kf (fun q => z ?_) H locs la hP hS hl)
  · rw [iI_0] at z; exact (iI_lt ⟨by decide, by decide⟩ hx).mp z
  · rw [iI_0]; exact (iI_lt ⟨by decide, by decide⟩ hx).mpr q
theorem a_icmp_le (a : AM p l e s m args meth c own Ts cc nL D X ad) {x y : Int} {off : Int} {tgt : Nat} (hx : Rg x) (hy : Rg y) (hdg : decode cc pc = .ok (.if_icmp .le off, 3)) (ht : (pc : Int) + off = (tgt : Int))
    (kt : x ≤ y → GG p l e R s m args below meth c cells slots Q D X ad nL tgt ls st σ) (kf : ¬ x ≤ y → GG p l e R s m args below meth c cells slots Q D X ad nL (pc + 3) ls st σ) : GG p l e R s m args below meth c cells slots Q D X ad nL pc ls (vI y :: vI x :: st) σ := by
  intro H locs la hP hS hl
  refine lv_icmp_le a.1.1 a.1.2.1 hdg ht (fun z => kt ?_ H locs la hP hS hl) (fun z => kf (fun q => z ?_) H locs la hP hS hl)
  · exact (iI_le hx hy).mp z
  · exact (iI_le hx hy).mpr q
theorem a_if_le (a : AM p l e s m args meth c own Ts cc nL D X ad) {x : Int} {off : Int} {tgt : Nat} (hx : Rg x) (hdg : decode cc pc = .ok (.ifCond .le off, 3)) (ht : (pc : Int) + off = (tgt : Int))
    (kt : x ≤ 0 → GG p l e R s m args below meth c cells slots Q D X ad nL tgt ls st σ) (kf : ¬ x ≤ 0 → GG p l e R s m args below meth c cells slots Q D X ad nL (pc + 3) ls st σ) : GG p l e R s m args below meth c cells slots Q D X ad nL pc ls (vI x :: st) σ := by
  intro H locs la hP hS hl
  refine lv_if_le a.1.1 a.1.2.1 hdg ht (fun z => kt ?_ H locs la hP hS hl) (fun z => kf (fun q => z ?_) H locs la hP hS hl)
  · rw [iI_0] at z; exact (iI_le hx ⟨by decide, by decide⟩).mp z
  · rw [iI_0]; exact (iI_le hx ⟨by decide, by decide⟩).mpr q
theorem a_goto (a : AM p l e s m args meth c own Ts cc nL D X ad) {off : Int} {tgt : Nat} (hdg : decode cc pc = .ok (.goto off, 3)) (ht : (pc : Int) + off = (tgt : Int))
    (k : GG p l e R s m args below meth c cells slots Q D X ad nL (tgt) ls (st) σ) : GG p l e R s m args below meth c cells slots Q D X ad nL pc ls (st) σ := by
  intro H locs la hP hS hl
  exact lv_goto a.1.1 a.1.2.1 hdg ht (k H locs la hP hS hl)
theorem a_tsIn (a : AM p l e s m args meth c own Ts cc nL D X ad) {x dflt lo hi off : Int} {offs : Array Int} {len tgt : Nat} (n : Int) (hx : x = n) (hn : Rg n) (hdg : decode cc pc = .ok (.tableswitch dflt lo hi offs, len)) (h1 : ¬ n < lo) (h2 : ¬ hi < n) (ho : offs[(n - lo).toNat]? = some off) (ht : (pc : Int) + off = (tgt : Int))
    (k : GG p l e R s m args below meth c cells slots Q D X ad nL (tgt) ls (st) σ) : GG p l e R s m args below meth c cells slots Q D X ad nL pc ls (vI x :: st) σ := by
  intro H locs la hP hS hl
  subst hx
  exact lv_tableIn a.1.1 a.1.2.1 hdg (by rw [iI_toInt hn]; exact h1) (by rw [iI_toInt hn]; exact h2) (by rw [iI_toInt hn]; exact ho) ht (k H locs la hP hS hl)
theorem a_tsOut (a : AM p l e s m args meth c own Ts cc nL D X ad) {x dflt lo hi : Int} {offs : Array Int} {len tgt : Nat} (hx : Rg x) (hdg : decode cc pc = .ok (.tableswitch dflt lo hi offs, len)) (h1 : x < lo ∨ hi < x) (ht : (pc : Int) + dflt = (tgt : Int))
    (k : GG p l e R s m args below meth c cells slots Q D X ad nL (tgt) ls (st) σ) : GG p l e R s m args below meth c cells slots Q D X ad nL pc ls (vI x :: st) σ := by
  intro H locs la hP hS hl
  exact lv_tableOut a.1.1 a.1.2.1 hdg (by rw [iI_toInt hx]; exact h1) ht (k H locs la hP hS hl)
theorem a_lsw (a : AM p l e s m args meth c own Ts cc nL D X ad) {x dflt off : Int} {ps : Array (Int × Int)} {len tgt : Nat} (hx : Rg x) (hdg : decode cc pc = .ok (.lookupswitch dflt ps, len)) (hp : (ps.toList.zip (ps.toList.drop 1)).all (fun (a, next) => a.1 < next.1) = true) (ho : Op.lookupswitch.offset ps.toList dflt x = off) (ht : (pc : Int) + off = (tgt : Int))
    (k : GG p l e R s m args below meth c cells slots Q D X ad nL (tgt) ls (st) σ) : GG p l e R s m args below meth c cells slots Q D X ad nL pc ls (vI x :: st) σ := by
  intro H locs la hP hS hl
  exact lv_lookup a.1.1 a.1.2.1 hdg hp (by rw [iI_toInt hx]; exact ho) ht (k H locs la hP hS hl)
theorem a_ifnull (a : AM p l e s m args meth c own Ts cc nL D X ad) {q : Nat} {off : Int} (hdg : decode cc pc = .ok (.ifnull off, 3))
    (k : GG p l e R s m args below meth c cells slots Q D X ad nL (pc + 3) ls (st) σ) : GG p l e R s m args below meth c cells slots Q D X ad nL pc ls (Value.ref q :: st) σ := by
  intro H locs la hP hS hl
  exact lv_ifnull a.1.1 a.1.2.1 hdg (k H locs la hP hS hl)
theorem a_getI (a : AM p l e s m args meth c own Ts cc nL D X ad) {ix b : Nat} {ci : Nat} (j : Nat) (ji : Int) (hji : (j : Int) = ji) {C : String} {T : u_T} {N : Nat} (hb : tyc b (ci + 4, 0)) (hc : vwCl[ci]? = some (C, T, N)) (hin : ∀ w ∈ u_ws C T N, w ∈ Ts) (hlink : (Cond.fieldLink own ix (T j).1 (T j).2.1 (T j).2.2.1).before args s = true) (hj : j < N) (hjn : j < nfl ci)  (hf : fty ci j = 0) (hdg : decode cc pc = .ok (.getfield ix, 3))
    (k : GG p l e R s m args below meth c cells slots Q D X ad nL (pc + 3) ls (vI (σ b ji) :: st) σ) : GG p l e R s m args below meth c cells slots Q D X ad nL pc ls (Value.ref (ad b) :: st) σ := by
  intro H locs la hP hS hl
  subst hji
  have hb := tw a.2.2.1 hb
  refine va_get a.1.1 a.1.2.1 a.1.2.2.2.2 hin a.1.2.2.2.1 a.2.1 hP b (by rw [ws_get hb.1, celO hb.2]) hc j hj hlink (fun x h => h) (v := vI (σ b (j : Int))) ?_ hdg (k H locs la hP hS hl)
  rw [fv_get hjn]
  simp only [fval, hf]
theorem a_getJ (a : AM p l e s m args meth c own Ts cc nL D X ad) {ix b : Nat} {ci : Nat} (j : Nat) (ji : Int) (hji : (j : Int) = ji) {C : String} {T : u_T} {N : Nat} (hb : tyc b (ci + 4, 0)) (hc : vwCl[ci]? = some (C, T, N)) (hin : ∀ w ∈ u_ws C T N, w ∈ Ts) (hlink : (Cond.fieldLink own ix (T j).1 (T j).2.1 (T j).2.2.1).before args s = true) (hj : j < N) (hjn : j < nfl ci)  (hf : fty ci j = 1) (hdg : decode cc pc = .ok (.getfield ix, 3))
    (k : GG p l e R s m args below meth c cells slots Q D X ad nL (pc + 3) ls (vJ (σ b ji) :: st) σ) : GG p l e R s m args below meth c cells slots Q D X ad nL pc ls (Value.ref (ad b) :: st) σ := by
  intro H locs la hP hS hl
  subst hji
  have hb := tw a.2.2.1 hb
  refine va_get a.1.1 a.1.2.1 a.1.2.2.2.2 hin a.1.2.2.2.1 a.2.1 hP b (by rw [ws_get hb.1, celO hb.2]) hc j hj hlink (fun x h => h) (v := vJ (σ b (j : Int))) ?_ hdg (k H locs la hP hS hl)
  rw [fv_get hjn]
  simp only [fval, hf]
theorem a_getR (a : AM p l e s m args meth c own Ts cc nL D X ad) {ix b : Nat} {ci : Nat} (j : Nat) (ji : Int) (hji : (j : Int) = ji) {C : String} {T : u_T} {N : Nat} (hb : tyc b (ci + 4, 0)) (hc : vwCl[ci]? = some (C, T, N)) (hin : ∀ w ∈ u_ws C T N, w ∈ Ts) (hlink : (Cond.fieldLink own ix (T j).1 (T j).2.1 (T j).2.2.1).before args s = true) (hj : j < N) (hjn : j < nfl ci) (d : Nat) {q : Nat} (hq : b + d = q) (hf : fty ci j = d + 2) (hdg : decode cc pc = .ok (.getfield ix, 3))
    (k : GG p l e R s m args below meth c cells slots Q D X ad nL (pc + 3) ls (Value.ref (ad q) :: st) σ) : GG p l e R s m args below meth c cells slots Q D X ad nL pc ls (Value.ref (ad b) :: st) σ := by
  intro H locs la hP hS hl
  subst hji
  subst hq
  have hb := tw a.2.2.1 hb
  refine va_get a.1.1 a.1.2.1 a.1.2.2.2.2 hin a.1.2.2.2.1 a.2.1 hP b (by rw [ws_get hb.1, celO hb.2]) hc j hj hlink (fun x h => h) (v := Value.ref (ad (b + d))) ?_ hdg (k H locs la hP hS hl)
  rw [fv_get hjn]
  simp only [fval, hf]
theorem a_putI (a : AM p l e s m args meth c own Ts cc nL D X ad) {ix b : Nat} {ci : Nat} (j : Nat) (ji : Int) (hji : (j : Int) = ji) {C : String} {T : u_T} {N : Nat} (hb : tyc b (ci + 4, 0)) (hc : vwCl[ci]? = some (C, T, N)) (hin : ∀ w ∈ u_ws C T N, w ∈ Ts) (hlink : (Cond.fieldLink own ix (T j).1 (T j).2.1 (T j).2.2.1).before args s = true) (hj : j < N) (hjn : j < nfl ci) (ty0 : Nat → FieldType) (hty : ∀ k, k < N → parseFieldDescriptor (T k).2.2.1 = some (ty0 k)) (hnm : ∀ a, a < N → ∀ b, b < N → a ≠ b → (T a).2.1 ≠ (T b).2.1) {x : Int}  (hf : fty ci j = 0) (hfin : (T j).2.2.2 = false) (hd : parseFieldDescriptor (T j).2.2.1 = some .int) (hdg : decode cc pc = .ok (.putfield ix, 3))
    (k : GG p l e R s m args below meth c cells slots Q D X ad nL (pc + 3) ls (st) (up2 σ b ji x)) : GG p l e R s m args below meth c cells slots Q D X ad nL pc ls (vI x :: Value.ref (ad b) :: st) σ := by
  intro H locs la hP hS hl
  subst hji
  have hD := ws_D (X := X) (σ := σ) (sz := s.heap.size) a.2.2.1
  have hb := tw a.2.2.1 hb
  refine va_put a.1.1 a.1.2.1 a.1.2.2.2.2 hin ty0 hty hnm a.1.2.2.2.1 a.2.1 hP hD hS b (by rw [ws_get hb.1, celO hb.2]) hc j hj hlink (fun x h => h) hfin hd rfl rfl (by simp [hjn]) hdg (fun H1 locs1 hP1 _ hS1 => ?_)
  refine k H1 locs1 la ?_ hS1 hl
  rwa [ws_put (σ1 := up2 σ b j x) hb.1 up2_ne] at hP1
  rw [celO hb.2, fv_set (g := up2 σ b j x b) hjn (fun i hi => by simp [up2, hi]) (by simp only [fval, hf, up2]; simp)]
theorem a_putZ (a : AM p l e s m args meth c own Ts cc nL D X ad) {ix b : Nat} {ci : Nat} (j : Nat) (ji : Int) (hji : (j : Int) = ji) {C : String} {T : u_T} {N : Nat} (hb : tyc b (ci + 4, 0)) (hc : vwCl[ci]? = some (C, T, N)) (hin : ∀ w ∈ u_ws C T N, w ∈ Ts) (hlink : (Cond.fieldLink own ix (T j).1 (T j).2.1 (T j).2.2.1).before args s = true) (hj : j < N) (hjn : j < nfl ci) (ty0 : Nat → FieldType) (hty : ∀ k, k < N → parseFieldDescriptor (T k).2.2.1 = some (ty0 k)) (hnm : ∀ a, a < N → ∀ b, b < N → a ≠ b → (T a).2.1 ≠ (T b).2.1) {x : Int} (hbl : Bl x) (hf : fty ci j = 0) (hfin : (T j).2.2.2 = false) (hd : parseFieldDescriptor (T j).2.2.1 = some .boolean) (hdg : decode cc pc = .ok (.putfield ix, 3))
    (k : GG p l e R s m args below meth c cells slots Q D X ad nL (pc + 3) ls (st) (up2 σ b ji x)) : GG p l e R s m args below meth c cells slots Q D X ad nL pc ls (vI x :: Value.ref (ad b) :: st) σ := by
  intro H locs la hP hS hl
  subst hji
  have hD := ws_D (X := X) (σ := σ) (sz := s.heap.size) a.2.2.1
  have hb := tw a.2.2.1 hb
  refine va_put a.1.1 a.1.2.1 a.1.2.2.2.2 hin ty0 hty hnm a.1.2.2.2.1 a.2.1 hP hD hS b (by rw [ws_get hb.1, celO hb.2]) hc j hj hlink (fun x h => h) hfin hd (bl_nar hbl) (bl_fit hbl) (by simp [hjn]) hdg (fun H1 locs1 hP1 _ hS1 => ?_)
  refine k H1 locs1 la ?_ hS1 hl
  rwa [ws_put (σ1 := up2 σ b j x) hb.1 up2_ne] at hP1
  rw [celO hb.2, fv_set (g := up2 σ b j x b) hjn (fun i hi => by simp [up2, hi]) (by simp only [fval, hf, up2]; simp)]
theorem a_putJ (a : AM p l e s m args meth c own Ts cc nL D X ad) {ix b : Nat} {ci : Nat} (j : Nat) (ji : Int) (hji : (j : Int) = ji) {C : String} {T : u_T} {N : Nat} (hb : tyc b (ci + 4, 0)) (hc : vwCl[ci]? = some (C, T, N)) (hin : ∀ w ∈ u_ws C T N, w ∈ Ts) (hlink : (Cond.fieldLink own ix (T j).1 (T j).2.1 (T j).2.2.1).before args s = true) (hj : j < N) (hjn : j < nfl ci) (ty0 : Nat → FieldType) (hty : ∀ k, k < N → parseFieldDescriptor (T k).2.2.1 = some (ty0 k)) (hnm : ∀ a, a < N → ∀ b, b < N → a ≠ b → (T a).2.1 ≠ (T b).2.1) {x : Int}  (hf : fty ci j = 1) (hfin : (T j).2.2.2 = false) (hd : parseFieldDescriptor (T j).2.2.1 = some .long) (hdg : decode cc pc = .ok (.putfield ix, 3))
    (k : GG p l e R s m args below meth c cells slots Q D X ad nL (pc + 3) ls (st) (up2 σ b ji x)) : GG p l e R s m args below meth c cells slots Q D X ad nL pc ls (vJ x :: Value.ref (ad b) :: st) σ := by
  intro H locs la hP hS hl
  subst hji
  have hD := ws_D (X := X) (σ := σ) (sz := s.heap.size) a.2.2.1
  have hb := tw a.2.2.1 hb
  refine va_put a.1.1 a.1.2.1 a.1.2.2.2.2 hin ty0 hty hnm a.1.2.2.2.1 a.2.1 hP hD hS b (by rw [ws_get hb.1, celO hb.2]) hc j hj hlink (fun x h => h) hfin hd rfl rfl (by simp [hjn]) hdg (fun H1 locs1 hP1 _ hS1 => ?_)
  refine k H1 locs1 la ?_ hS1 hl
  rwa [ws_put (σ1 := up2 σ b j x) hb.1 up2_ne] at hP1
  rw [celO hb.2, fv_set (g := up2 σ b j x b) hjn (fun i hi => by simp [up2, hi]) (by simp only [fval, hf, up2]; simp)]
theorem a_iald (a : AM p l e s m args meth c own Ts cc nL D X ad) {b n : Nat} {i : Int} (hb : tyw ad b (0, n)) (hnn : n < 2147483648) (hi : 0 ≤ i ∧ i < n) (hdg : decode cc pc = .ok (.iaload, 1))
    (k : GG p l e R s m args below meth c cells slots Q D X ad nL (pc + 1) ls (vI (σ b i) :: st) σ) : GG p l e R s m args below meth c cells slots Q D X ad nL pc ls (vI i :: Value.ref (ad b) :: st) σ := by
  intro H locs la hP hS hl
  obtain ⟨hi1, hi2⟩ := iI_in hi hnn
  refine va_iald a.1.1 a.1.2.1 a.2.1 hP b 0 (by rw [ws_get hb.1, cel0 hb.2]) rfl hi1 hdg ?_
  rw [hi2]
  have e : ((i.toNat : Nat) : Int) = i := by omega
  simp only [e]
  exact k H locs la hP hS hl
theorem a_zald (a : AM p l e s m args meth c own Ts cc nL D X ad) {b n : Nat} {i : Int} (hb : tyw ad b (1, n)) (hnn : n < 2147483648) (hi : 0 ≤ i ∧ i < n) (hdg : decode cc pc = .ok (.baload, 1))
    (k : GG p l e R s m args below meth c cells slots Q D X ad nL (pc + 1) ls (vI (σ b i) :: st) σ) : GG p l e R s m args below meth c cells slots Q D X ad nL pc ls (vI i :: Value.ref (ad b) :: st) σ := by
  intro H locs la hP hS hl
  obtain ⟨hi1, hi2⟩ := iI_in hi hnn
  refine va_zald a.1.1 a.1.2.1 a.2.1 hP b 1 (by rw [ws_get hb.1, cel1 hb.2]) rfl hi1 hdg ?_
  rw [hi2]
  have e : ((i.toNat : Nat) : Int) = i := by omega
  simp only [e]
  exact k H locs la hP hS hl
theorem a_iast (a : AM p l e s m args meth c own Ts cc nL D X ad) {b n : Nat} {i x : Int} (hb : tyw ad b (0, n)) (hnn : n < 2147483648) (hi : 0 ≤ i ∧ i < n)  (hdg : decode cc pc = .ok (.iastore, 1))
    (k : GG p l e R s m args below meth c cells slots Q D X ad nL (pc + 1) ls (st) (up2 σ b i x)) : GG p l e R s m args below meth c cells slots Q D X ad nL pc ls (vI x :: vI i :: Value.ref (ad b) :: st) σ := by
  intro H locs la hP hS hl
  have hD := ws_D (X := X) (σ := σ) (sz := s.heap.size) a.2.2.1
  obtain ⟨hi1, hi2⟩ := iI_in hi hnn
  refine va_iast a.1.1 a.1.2.1 a.2.1 hP hD hS b 0 (by rw [ws_get hb.1, cel0 hb.2]) rfl hi1 hdg (fun H1 locs1 hP1 _ hS1 => ?_)
  refine k H1 locs1 la ?_ hS1 hl
  rwa [ws_put (σ1 := up2 σ b i x) hb.1 up2_ne] at hP1
  rw [cel0 hb.2, hi2, iI_up hi.1]
  simp only [up2, true_and]
theorem a_zast (a : AM p l e s m args meth c own Ts cc nL D X ad) {b n : Nat} {i x : Int} (hb : tyw ad b (1, n)) (hnn : n < 2147483648) (hi : 0 ≤ i ∧ i < n) (hbl : Bl x) (hdg : decode cc pc = .ok (.bastore, 1))
    (k : GG p l e R s m args below meth c cells slots Q D X ad nL (pc + 1) ls (st) (up2 σ b i x)) : GG p l e R s m args below meth c cells slots Q D X ad nL pc ls (vI x :: vI i :: Value.ref (ad b) :: st) σ := by
  intro H locs la hP hS hl
  have hD := ws_D (X := X) (σ := σ) (sz := s.heap.size) a.2.2.1
  obtain ⟨hi1, hi2⟩ := iI_in hi hnn
  refine va_zast a.1.1 a.1.2.1 a.2.1 hP hD hS b 1 (by rw [ws_get hb.1, cel1 hb.2]) rfl hi1 hdg (fun H1 locs1 hP1 _ hS1 => ?_)
  refine k H1 locs1 la ?_ hS1 hl
  rwa [ws_put (σ1 := up2 σ b i x) hb.1 up2_ne] at hP1
  rw [cel1 hb.2, hi2, bl_vp hbl, iI_up hi.1]
  simp only [up2, true_and]
theorem a_aald (a : AM p l e s m args meth c own Ts cc nL D X ad) {b n : Nat} {i : Int} (hb : tyc b (2, n)) (hi : 0 ≤ i ∧ i < 4) (hdg : decode cc pc = .ok (.aaload, 1))
    (k : GG p l e R s m args below meth c cells slots Q D X ad nL (pc + 1) ls (Value.ref (ad (n + 13 * i.toNat)) :: st) σ) : GG p l e R s m args below meth c cells slots Q D X ad nL pc ls (vI i :: Value.ref (ad b) :: st) σ := by
  intro H locs la hP hS hl
  have hb := tw a.2.2.1 hb
  obtain ⟨hi1, hi2⟩ := iI_in (n := 4) hi (by decide)
  refine va_aldq a.1.1 a.1.2.1 a.2.1 hP b 2 (by rw [ws_get hb.1, cel2 hb.2]) rfl hi1 hdg ?_
  rw [hi2]
  exact k H locs la hP hS hl
theorem a_gets (a : AM p l e s m args meth c own Ts cc nL D X ad) {ix : Nat} (hlink : (Cond.fieldLink own ix "SightLegend" "HIGHEST_SETTING" "[I").before args s = true) {ht : Nat} (hz : va_Z "SightLegend" "HIGHEST_SETTING" "[I" (.ref ht) (AA ad s.heap.size) s s.heap) (hdg : decode cc pc = .ok (.getstatic ix, 3))
    (k : GG p l e R s m args below meth c cells slots Q D X ad nL (pc + 3) ls (Value.ref ht :: st) σ) : GG p l e R s m args below meth c cells slots Q D X ad nL pc ls (st) σ := by
  intro H locs la hP hS hl
  exact va_gets a.1.1 a.1.2.1 hz hS a.1.2.2.2.1 hlink (fun x h => h) hdg (k H locs la hP hS hl)
theorem a_ti (a : AM p l e s m args meth c own Ts cc nL D X ad) {i : Int} {ht : Nat} (hz : va_T .int ht 4 hset (AA ad s.heap.size) s s.heap) (hi : 0 ≤ i ∧ i < 4) (hdg : decode cc pc = .ok (.iaload, 1))
    (k : GG p l e R s m args below meth c cells slots Q D X ad nL (pc + 1) ls (vI (hsetI i) :: st) σ) : GG p l e R s m args below meth c cells slots Q D X ad nL pc ls (vI i :: Value.ref ht :: st) σ := by
  intro H locs la hP hS hl
  obtain ⟨hi1, hi2⟩ := iI_in (n := 4) hi (by decide)
  refine va_ti a.1.1 a.1.2.1 hz hS hi1 (v := vI (hsetI i)) ?_ hdg (k H locs la hP hS hl)
  rw [hi2]
  have : i = 0 ∨ i = 1 ∨ i = 2 ∨ i = 3 := by omega
  rcases this with rfl | rfl | rfl | rfl <;> rfl
theorem a_max (a : AM p l e s m args meth c own Ts cc nL D X ad) {ix : Nat} {x y : Int} (hx : Rg x) (hy : Rg y) (h1 : (Cond.methodLink own ix Lib.Math.max.name).before args s = true) (h2 : (Cond.static Lib.Math.max.name).before args s = true) (h3 : (Cond.initialized "java/lang/Math").before args s = true) (h4 : (Cond.code Lib.Math.max.name Lib.Math.max.code 2 (some .int)).before args s = true) (hfr : 1 ≤ R.frames) (hlo : (st.map fun v => v.category).sum + 13 ≤ R.locals) (hce : cells ≤ R.cells) (hsl : slots ≤ R.slots) (hdg : decode cc pc = .ok (.invokestatic ix, 3))
    (k : GG p l e R s m args below meth c cells slots Q D X ad nL (pc + 3) ls (vI (if x < y then y else x) :: st) σ) : GG p l e R s m args below meth c cells slots Q D X ad nL pc ls (vI y :: vI x :: st) σ := by
  intro H locs la hP hS hl
  refine va_mmax a.1.1 a.1.2.1 (by rw [a.1.2.2.1, hl.1]) a.1.2.2.2.1 h1 h2 h3 h4 hfr hlo hce hsl hdg ?_
  have h := k H locs la hP hS hl
  by_cases z : x < y
  · have z1 : iI x < iI y := (iI_lt hx hy).mpr z
    rw [if_pos z] at h
    rw [if_pos z1]
    exact h
  · have z1 : ¬ iI x < iI y := fun q => z ((iI_lt hx hy).mp q)
    rw [if_neg z] at h
    rw [if_neg z1]
    exact h
theorem a_min (a : AM p l e s m args meth c own Ts cc nL D X ad) {ix : Nat} {x y : Int} (hx : Rg x) (hy : Rg y) (h1 : (Cond.methodLink own ix Lib.Math.min.name).before args s = true) (h2 : (Cond.static Lib.Math.min.name).before args s = true) (h3 : (Cond.initialized "java/lang/Math").before args s = true) (h4 : (Cond.code Lib.Math.min.name Lib.Math.min.code 2 (some .int)).before args s = true) (hfr : 1 ≤ R.frames) (hlo : (st.map fun v => v.category).sum + 13 ≤ R.locals) (hce : cells ≤ R.cells) (hsl : slots ≤ R.slots) (hdg : decode cc pc = .ok (.invokestatic ix, 3))
    (k : GG p l e R s m args below meth c cells slots Q D X ad nL (pc + 3) ls (vI (if y < x then y else x) :: st) σ) : GG p l e R s m args below meth c cells slots Q D X ad nL pc ls (vI y :: vI x :: st) σ := by
  intro H locs la hP hS hl
  refine va_mmin a.1.1 a.1.2.1 (by rw [a.1.2.2.1, hl.1]) a.1.2.2.2.1 h1 h2 h3 h4 hfr hlo hce hsl hdg ?_
  have h := k H locs la hP hS hl
  by_cases z : y < x
  · have z1 : iI y < iI x := (iI_lt hy hx).mpr z
    rw [if_pos z] at h
    rw [if_pos z1]
    exact h
  · have z1 : ¬ iI y < iI x := fun q => z ((iI_lt hy hx).mp q)
    rw [if_neg z] at h
    rw [if_neg z1]
    exact h
theorem a_copy (a : AM p l e s m args meth c own Ts cc nL D X ad) {ix b0 b1 n0 n1 : Nat} {sp dp n : Int} (hb0 : tyc b0 (0, n0)) (hb1 : tyc b1 (0, n1)) (hn0 : n0 < 2147483648) (hn1 : n1 < 2147483648) (h1 : 0 ≤ sp ∧ 0 ≤ dp ∧ 0 ≤ n) (h2 : sp + n ≤ n0 ∧ dp + n ≤ n1) (k1 : (Cond.methodLink own ix arraycopyName).before args s = true) (k2 : (Cond.native arraycopyName).before args s = true) (k3 : (Cond.static arraycopyName).before args s = true) (k4 : (Cond.initialized "java/lang/System").before args s = true) (hfr : 1 ≤ R.frames) (hlo : (st.map fun v => v.category).sum + (nativeFrameWords "java/lang/System" "arraycopy" 5 + 11) ≤ R.locals) (hdg : decode cc pc = .ok (.invokestatic ix, 3))
    (k : GG p l e R s m args below meth c cells slots Q D X ad nL (pc + 3) ls (st) (cpy2 σ b0 sp b1 dp n)) : GG p l e R s m args below meth c cells slots Q D X ad nL pc ls (vI n :: vI dp :: Value.ref (ad b1) :: vI sp :: Value.ref (ad b0) :: st) σ := by
  intro H locs la hP hS hl
  have hD := ws_D (X := X) (σ := σ) (sz := s.heap.size) a.2.2.1
  have neg : ∀ z : Int, 0 ≤ z → z < 2147483648 → ¬ iI z < 0 ∧ (iI z).toNatClampNeg = z.toNat := by
    intro z hz hz2
    have hr : (iI z).toInt = z := iI_toInt ⟨by omega, by omega⟩
    refine ⟨?_, by rw [← Int32.toNat_toInt, hr]⟩
    rw [iI_0, iI_lt ⟨by omega, by omega⟩ ⟨by omega, by omega⟩]
    omega
  obtain ⟨s1, s2⟩ := neg sp h1.1 (by omega)
  obtain ⟨d1, d2⟩ := neg dp h1.2.1 (by omega)
  obtain ⟨m1, m2⟩ := neg n h1.2.2 (by omega)
  have hb0 := tw a.2.2.1 hb0
  have hb1 := tw a.2.2.1 hb1
  refine va_copyi a.1.1 a.1.2.1 (by rw [a.1.2.2.1, hl.1]) a.1.2.2.2.1 k1 k2 k3 k4 a.2.1 hP hD hS b0 b1 0 0 (ty := .int) (by rw [ws_get hb0.1, cel0 hb0.2]) (by rw [ws_get hb1.1, cel0 hb1.2]) rfl rfl rfl s1 d1 m1 (by rw [s2, m2]; omega) (by rw [d2, m2]; omega) (fun _ _ => rfl) hfr hlo hdg (fun H1 locs1 hP1 _ hS1 => ?_)
  refine k H1 locs1 la ?_ hS1 hl
  rwa [ws_put (σ1 := cpy2 σ b0 sp b1 dp n) hb1.1 (fun j hj => by funext i1; simp [cpy2, hj])] at hP1
  rw [cel0 hb1.2, s2, d2, m2]
  congr 4
  funext j
  simp only [va_cpy, cpy2, true_and]
  by_cases z : dp ≤ (j : Int) ∧ (j : Int) < dp + n
  · rw [if_pos z, if_pos (by omega)]
    congr 2
    omega
  · rw [if_neg z, if_neg (by omega)]
theorem a_ldc (a : AM p l e s m args meth c own Ts cc nL D X ad) {ix : Nat} {n : Int} (hw : (Cond.constant own ix (iI n)).before args s = true) (hdg : decode cc pc = .ok (.ldc ix, 2))
    (k : GG p l e R s m args below meth c cells slots Q D X ad nL (pc + 2) ls (vI n :: st) σ) : GG p l e R s m args below meth c cells slots Q D X ad nL pc ls (st) σ := by
  intro H locs la hP hS hl
  exact lv_ldc a.1.1 a.1.2.1 a.1.2.2.2.1 hw hdg (k H locs la hP hS hl)
theorem a_iand (a : AM p l e s m args meth c own Ts cc nL D X ad) {x y : Int} (hdg : decode cc pc = .ok (.iand, 1))
    (k : GG p l e R s m args below meth c cells slots Q D X ad nL (pc + 1) ls (vI (bA x y) :: st) σ) : GG p l e R s m args below meth c cells slots Q D X ad nL pc ls (vI y :: vI x :: st) σ := by
  intro H locs la hP hS hl
  refine lv_iand a.1.1 a.1.2.1 hdg ?_
  have h := k H locs la hP hS hl
  rwa [show vI (bA x y) = Value.int (iI (bA x y)) from rfl, show iI (bA x y) = _ from iI_back _] at h
theorem a_ior (a : AM p l e s m args meth c own Ts cc nL D X ad) {x y : Int} (hdg : decode cc pc = .ok (.ior, 1))
    (k : GG p l e R s m args below meth c cells slots Q D X ad nL (pc + 1) ls (vI (bO x y) :: st) σ) : GG p l e R s m args below meth c cells slots Q D X ad nL pc ls (vI y :: vI x :: st) σ := by
  intro H locs la hP hS hl
  refine lv_ior a.1.1 a.1.2.1 hdg ?_
  have h := k H locs la hP hS hl
  rwa [show vI (bO x y) = Value.int (iI (bO x y)) from rfl, show iI (bO x y) = _ from iI_back _] at h
theorem a_ixor (a : AM p l e s m args meth c own Ts cc nL D X ad) {x y : Int} (hdg : decode cc pc = .ok (.ixor, 1))
    (k : GG p l e R s m args below meth c cells slots Q D X ad nL (pc + 1) ls (vI (bX x y) :: st) σ) : GG p l e R s m args below meth c cells slots Q D X ad nL pc ls (vI y :: vI x :: st) σ := by
  intro H locs la hP hS hl
  refine lv_ixor a.1.1 a.1.2.1 hdg ?_
  have h := k H locs la hP hS hl
  rwa [show vI (bX x y) = Value.int (iI (bX x y)) from rfl, show iI (bX x y) = _ from iI_back _] at h
theorem a_ishl (a : AM p l e s m args meth c own Ts cc nL D X ad) {x y : Int} (hdg : decode cc pc = .ok (.ishl, 1))
    (k : GG p l e R s m args below meth c cells slots Q D X ad nL (pc + 1) ls (vI (bL x y) :: st) σ) : GG p l e R s m args below meth c cells slots Q D X ad nL pc ls (vI y :: vI x :: st) σ := by
  intro H locs la hP hS hl
  refine lv_ishl a.1.1 a.1.2.1 hdg ?_
  have h := k H locs la hP hS hl
  rwa [show vI (bL x y) = Value.int (iI (bL x y)) from rfl, show iI (bL x y) = _ from iI_back _] at h
theorem a_ishr (a : AM p l e s m args meth c own Ts cc nL D X ad) {x y : Int} (hdg : decode cc pc = .ok (.ishr, 1))
    (k : GG p l e R s m args below meth c cells slots Q D X ad nL (pc + 1) ls (vI (bR x y) :: st) σ) : GG p l e R s m args below meth c cells slots Q D X ad nL pc ls (vI y :: vI x :: st) σ := by
  intro H locs la hP hS hl
  refine lv_ishr a.1.1 a.1.2.1 hdg ?_
  have h := k H locs la hP hS hl
  rwa [show vI (bR x y) = Value.int (iI (bR x y)) from rfl, show iI (bR x y) = _ from iI_back _] at h
theorem a_dcmp0 (a : AM p l e s m args meth c own Ts cc nL D X ad) {x y : UInt64} {op : CmpOp} (hxy : Op.cmpValue (FP.dcmp x y) op = 0) (hdg : decode cc pc = .ok (.dcmp op, 1))
    (k : GG p l e R s m args below meth c cells slots Q D X ad nL (pc + 1) ls (vI 0 :: st) σ) : GG p l e R s m args below meth c cells slots Q D X ad nL pc ls (Value.double y :: Value.double x :: st) σ := by
  intro H locs la hP hS hl
  refine lv_dcmp a.1.1 a.1.2.1 hdg ?_
  rw [hxy]
  exact k H locs la hP hS hl
theorem a_dload (a : AM p l e s m args meth c own Ts cc nL D X ad) {i : Nat} {x : UInt64} (j : Nat) (hdg : decode cc pc = .ok (.dload i, 2)) (hj : ls[j]? = some (i, Value.double x))
    (k : GG p l e R s m args below meth c cells slots Q D X ad nL (pc + 2) ls (Value.double x :: st) σ) : GG p l e R s m args below meth c cells slots Q D X ad nL pc ls (st) σ := by
  intro H locs la hP hS hl
  exact lv_dload a.1.1 a.1.2.1 hdg (lv_at hl j hj) (k H locs la hP hS hl)
theorem a_dstore (a : AM p l e s m args meth c own Ts cc nL D X ad) {i : Nat} {x : UInt64} (hdg : decode cc pc = .ok (.dstore i, 2)) (hn : i + 1 < nL) (hl1 : (i, Value.double x) :: ls.filter (fun q => !(q.1 == i) && (!(q.1 == i + 1) && !(q.1 + 1 == i && q.2.category == 2))) = ls1)
    (k : GG p l e R s m args below meth c cells slots Q D X ad nL (pc + 2) ls1 (st) σ) : GG p l e R s m args below meth c cells slots Q D X ad nL pc ls (Value.double x :: st) σ := by
  intro H locs la hP hS hl
  exact lv_dstore a.1.1 a.1.2.1 hdg hl hn hl1 (fun la1 hl2 => k H locs la1 hP hS hl2)
theorem a_slen (a : AM p l e s m args meth c own Ts cc nL D X ad) {bb L : Nat} {xs : Nat → Int32} (hX : va_X bb L xs s s.heap) (hbl : bb < s.heap.size) (hbA : ¬ AA ad s.heap.size bb) (hdg : decode cc pc = .ok (.arraylength, 1))
    (k : GG p l e R s m args below meth c cells slots Q D X ad nL (pc + 1) ls (vI L :: st) σ) : GG p l e R s m args below meth c cells slots Q D X ad nL pc ls (Value.ref bb :: st) σ := by
  intro H locs la hP hS hl
  refine va_slen a.1.1 a.1.2.1 hX hbl hbA hS hdg ?_
  have h := k H locs la hP hS hl
  rwa [show vI (L : Int) = Value.int (Int32.ofNat L) from congrArg Value.int Int32.ofInt_eq_ofNat] at h
theorem a_sld (a : AM p l e s m args meth c own Ts cc nL D X ad) {bb L : Nat} {xs : Nat → Int32} {i : Int} (hX : va_X bb L xs s s.heap) (hbl : bb < s.heap.size) (hbA : ¬ AA ad s.heap.size bb) (hL : L ≤ 3072) (hi : 0 ≤ i ∧ i < L) (hdg : decode cc pc = .ok (.iaload, 1))
    (k : GG p l e R s m args below meth c cells slots Q D X ad nL (pc + 1) ls (vI (xs i.toNat).toInt :: st) σ) : GG p l e R s m args below meth c cells slots Q D X ad nL pc ls (vI i :: Value.ref bb :: st) σ := by
  intro H locs la hP hS hl
  obtain ⟨hi1, hi2⟩ := iI_in (n := L) hi (by omega)
  refine va_sld a.1.1 a.1.2.1 hX hbl hbA hS hi1 hdg ?_
  rw [hi2]
  have h := k H locs la hP hS hl
  rwa [show vI (xs i.toNat).toInt = Value.int (xs i.toNat) from congrArg Value.int (iI_back _)] at h
theorem a_sldx (a : AM p l e s m args meth c own Ts cc nL D X ad) {bb L : Nat} {xs : Nat → Int32} {xi : Int → Int} {i : Int} (hX : va_X bb L xs s s.heap) (hxi : ∀ i : Int, xi i = (xs i.toNat).toInt) (hbl : bb < s.heap.size) (hbA : ¬ AA ad s.heap.size bb) (hL : L ≤ 3072) (hi : 0 ≤ i ∧ i < L) (hdg : decode cc pc = .ok (.iaload, 1))
    (k : GG p l e R s m args below meth c cells slots Q D X ad nL (pc + 1) ls (vI (xi i) :: st) σ) : GG p l e R s m args below meth c cells slots Q D X ad nL pc ls (vI i :: Value.ref bb :: st) σ :=
  a_sld a hX hbl hbA hL hi hdg (hxi i ▸ k)
theorem a_newI (a : AM p l e s m args meth c own Ts cc nL D X ad) {N n : Nat} {ni : Int} (hw : nW ad = N) (hN : N = 165 ∨ N = 166) (hsh : shp N = (0, n)) (hn : ni = n) (hn2 : n < 100000) (LL : (Nat → Nat) → List (Nat × Value)) (hLL : ∀ A : Nat, LL (adP ad N A) = LL ad) (hls : ls = LL ad) (harr : (Cond.arrayClass .int).before args s = true) (hce : cells + 1 ≤ R.cells) (hsl : slots + n ≤ R.slots) (hdg : decode cc pc = .ok (.newarray .int, 2))
    (k : ∀ ad1 : Nat → Nat, AM p l e s m args meth c own Ts cc nL D X ad1 → nW ad1 = N + 1 → tyw ad1 N (0, n) → (∀ (τ : St) (H : Heap), va_P D vwCl (wsO X ad1 τ) H → va_P D vwCl (wsO X ad τ) H) → AA ad1 s.heap.size = AA ad s.heap.size → GG p l e R s m args below meth c (cells + 1) (slots + n) Q D X ad1 nL (pc + 2) (LL ad1) (Value.ref (ad1 N) :: []) (zr σ N)) : GG p l e R s m args below meth c cells slots Q D X ad nL pc ls (vI ni :: []) σ := by
  intro H locs la hP hS hl
  subst hn hls
  have hi : (iI (n : Int)).toInt = n := iI_toInt ⟨by omega, by omega⟩
  have h0 : ¬ iI (n : Int) < 0 := by rw [iI_0, iI_lt ⟨by omega, by omega⟩ ⟨by omega, by omega⟩]; omega
  have h1 : (iI (n : Int)).toNatClampNeg = n := by rw [← Int32.toNat_toInt, hi]; omega
  have hD := ws_D (X := X) (σ := σ) (sz := s.heap.size) a.2.2.1
  refine va_newa (atype := .int) a.1.1 a.1.2.1 harr rfl a.2.1 hP hD hS (fun q h => Or.inr h) (a0 := (n, .inl (fun _ => iI 0))) (N' := n) (fun cA => ?_) h0 h1 (Nat.le_trans (Nat.mul_le_mul_left n (show componentBytes (newarray.typeOf .int) ≤ 8 by decide)) (by omega)) hce hsl hdg (fun q cA H1 hK hP1 hD1 hS1 => ?_)
  · first | rfl | (rw [vp_cell_i]; rfl) | (simp only [vp_cell]; congr 1)
  have e : cA = X.1 := by
    have g1 := (hK.2 3 (cA, .int) rfl).2
    have g2 := (a.2.1.2 0 (X.1, .int) rfl).2
    exact Option.some.inj (g1.symm.trans g2)
  subst e
  have hlen : (wsO X ad σ).length = N := by simp [wsO, hw]
  have hqn : (wsO X ad σ ++ [(q, (.inl (X.1, n, .inl (fun _ => iI 0)) : va_E))])[N]? = some (q, .inl (X.1, n, .inl (fun _ => iI 0))) := by
    rw [List.getElem?_append_right (by omega), hlen, Nat.sub_self]; rfl
  have hqo : ∀ k : Nat, k < N → (wsO X ad σ ++ [(q, (.inl (X.1, n, .inl (fun _ => iI 0)) : va_E))])[k]? = some (ad k, cel X ad k (σ k)) := fun k hk => by
    rw [List.getElem?_append_left (by omega), ws_get (by omega)]
  have hne : ∀ k : Nat, k < N → ad k ≠ q := fun k hk z => by
    have := hD1.1 k N _ _ (hqo k hk) hqn z
    omega
  have hqs : s.heap.size ≤ q := by
    rcases hD1.2 N _ hqn with ⟨k, hk, z⟩ | z
    · exact absurd z.symm (hne k (by omega))
    · exact z
  have p1 : nW (adP ad N q) = N + 1 := by unfold nW adP; rw [if_neg (by omega), if_pos rfl]
  have p2 : adP ad N q N = q := by unfold adP; rw [if_pos rfl]
  have p3 : ∀ k : Nat, k < N → adP ad N q k = ad k := fun k hk => by unfold adP; rw [if_neg (by omega), if_neg (by omega)]
  have pA : AA (adP ad N q) s.heap.size = AA ad s.heap.size := by
    funext x
    refine propext ⟨fun h => ?_, fun h => ?_⟩
    · rcases h with ⟨k, hk, z⟩ | z
      · by_cases e : k = N
        · rw [e, p2] at z; exact Or.inr (by omega)
        · rw [p3 k (by omega)] at z; exact Or.inl ⟨k, by omega, z⟩
      · exact Or.inr z
    · rcases h with ⟨k, hk, z⟩ | z
      · exact Or.inl ⟨k, by omega, by rw [p3 k (by omega)]; exact z⟩
      · exact Or.inr z
  have pI : adI (adP ad N q) := by
    refine ⟨by rw [p1]; omega, fun i j hi hj z => ?_⟩
    rw [p1] at hi hj
    by_cases e1 : i = N
    · by_cases e2 : j = N
      · omega
      · rw [e1, p2, p3 j (by omega)] at z; exact absurd z.symm (hne j (by omega))
    · by_cases e2 : j = N
      · rw [e2, p2, p3 i (by omega)] at z; exact absurd z (hne i (by omega))
      · rw [p3 i (by omega), p3 j (by omega)] at z
        exact a.2.2.1.2 i j (by omega) (by omega) z
  have pW : wsO X (adP ad N q) (zr σ N) = wsO X ad σ ++ [(q, .inl (X.1, n, .inl (fun _ => iI 0)))] := by
    refine List.ext_getElem? fun j => ?_
    by_cases e1 : j < N
    · rw [hqo j e1, ws_get (by omega), p3 j e1, cel_adP hN (by omega)]
      have : zr σ N j = σ j := by funext i; unfold zr; rw [if_neg (by omega)]
      rw [this]
    · by_cases e2 : j = N
      · subst e2
        rw [hqn, ws_get (by omega), p2, cel0 hsh]
        have : zr σ j j = fun _ => 0 := by funext i; unfold zr; rw [if_pos rfl]
        rw [this]
      · rw [List.getElem?_eq_none (by simp [wsO]; omega), List.getElem?_eq_none (by simp [wsO]; omega)]
  refine k (adP ad N q) ⟨a.1, a.2.1, pI, by rw [pA]; exact a.2.2.2.1, a.2.2.2.2⟩ p1 ⟨by omega, hsh⟩ (fun τ H2 h2 k x hk => ?_) pA H1 locs la (by rw [pW]; exact hP1) (by rw [pA]; exact hS1) (by rw [hLL]; exact hl) |> (fun h => by rw [p2] at h; exact h)
  have hk2 : k < N := by
    have := (List.getElem?_eq_some_iff.mp hk).1
    simp [wsO] at this
    omega
  refine h2 k x ?_
  rw [ws_get (by omega)] at hk
  rw [ws_get (by omega), p3 k hk2, cel_adP hN (by omega)]
  exact hk
theorem a_i2d (a : AM p l e s m args meth c own Ts cc nL D X ad) {x : Int} (hdg : decode cc pc = .ok (.i2d, 1))
    (k : GG p l e R s m args below meth c cells slots Q D X ad nL (pc + 1) ls (Value.double (FP.i2d (iI x)) :: st) σ) : GG p l e R s m args below meth c cells slots Q D X ad nL pc ls (vI x :: st) σ := by
  intro H locs la hP hS hl
  exact lv_i2d a.1.1 a.1.2.1 hdg (k H locs la hP hS hl)
theorem a_ddiv (a : AM p l e s m args meth c own Ts cc nL D X ad) {x y : UInt64} (hn : vf_n64 (FP.ddiv x y)) (hdg : decode cc pc = .ok (.ddiv, 1))
    (k : GG p l e R s m args below meth c cells slots Q D X ad nL (pc + 1) ls (Value.double (FP.ddiv x y) :: st) σ) : GG p l e R s m args below meth c cells slots Q D X ad nL pc ls (Value.double y :: Value.double x :: st) σ := by
  intro H locs la hP hS hl
  exact lv_ddiv a.1.1 a.1.2.1 hdg hn (k H locs la hP hS hl)
theorem a_dconst1 (a : AM p l e s m args meth c own Ts cc nL D X ad) (hdg : decode cc pc = .ok (.dconst 1, 1))
    (k : GG p l e R s m args below meth c cells slots Q D X ad nL (pc + 1) ls (Value.double FP.dconst1 :: st) σ) : GG p l e R s m args below meth c cells slots Q D X ad nL pc ls (st) σ := by
  intro H locs la hP hS hl
  exact lv_dconst1 a.1.1 a.1.2.1 hdg (k H locs la hP hS hl)
theorem a_nm {x : Int} (k : ∀ y : Int, y = x → GG p l e R s m args below meth c cells slots Q D X ad nL pc ls (vI y :: st) σ) : GG p l e R s m args below meth c cells slots Q D X ad nL pc ls (vI x :: st) σ := k x rfl
theorem a_nmJ {x : Int} (k : ∀ y : Int, y = x → GG p l e R s m args below meth c cells slots Q D X ad nL pc ls (vJ y :: st) σ) : GG p l e R s m args below meth c cells slots Q D X ad nL pc ls (vJ x :: st) σ := k x rfl
theorem a_nmR {x : Nat} (k : ∀ y : Nat, y = x → GG p l e R s m args below meth c cells slots Q D X ad nL pc ls (Value.ref (ad y) :: st) σ) : GG p l e R s m args below meth c cells slots Q D X ad nL pc ls (Value.ref (ad x) :: st) σ := k x rfl
theorem a_nmS (k : ∀ τ : St, τ = σ → GG p l e R s m args below meth c cells slots Q D X ad nL pc ls st τ) : GG p l e R s m args below meth c cells slots Q D X ad nL pc ls st σ := k σ rfl
theorem a_wid (c1 s1 : Nat) (h1 : cells ≤ c1) (h2 : slots ≤ s1) (k : GG p l e R s m args below meth c c1 s1 Q D X ad nL pc ls st σ) : GG p l e R s m args below meth c cells slots Q D X ad nL pc ls st σ := fun H locs la hP hS hl => W.widen h1 h2 (k H locs la hP hS hl)
theorem g_wj0 {J : Prop} {B : (Prop) → Prop} (pcJ cJ sJ : Nat) (LL : List (Nat × Value)) (SS : List Value) (h : wj0 J B) (hJ : J  → GG p l e R s m args below meth c cJ sJ Q D X ad nL pcJ LL SS σ)
    (hB : ∀ J1 : Prop, (J1  → GG p l e R s m args below meth c cJ sJ Q D X ad nL pcJ LL SS σ) → B J1 → GG p l e R s m args below meth c cells slots Q D X ad nL pc ls st σ) : GG p l e R s m args below meth c cells slots Q D X ad nL pc ls st σ := hB J hJ h
theorem g_wl0s {f : St → (St → Prop) → Prop} (LL : List (Nat × Value)) {τ : St} (h : ∃ n, wl0s f n τ)
    (hs : ∀ (τ : St) (ag : St → Prop), (∀ (τ1 : St) , ag τ1 → GG p l e R s m args below meth c cells slots Q D X ad nL pc LL [] τ1) → f τ ag → GG p l e R s m args below meth c cells slots Q D X ad nL pc LL [] τ) : GG p l e R s m args below meth c cells slots Q D X ad nL pc LL [] τ :=
  wl0s_run (P := fun τ => GG p l e R s m args below meth c cells slots Q D X ad nL pc LL [] τ) hs h
theorem g_wb0s {f : St → (St → Prop) → Prop} (B mc ms Tc Ts : Nat) (LL : List (Nat × Value)) {τ : St} (h : ∃ n, n ≤ B ∧ wl0s f n τ) (hTc : B * mc ≤ Tc) (hTs : B * ms ≤ Ts)
    (hs : ∀ (τ : St) (ag : St → Prop) (c9 s9 : Nat), c9 + mc ≤ cells + Tc → s9 + ms ≤ slots + Ts → (∀ (τ1 : St) , ag τ1 → GG p l e R s m args below meth c (c9 + mc) (s9 + ms) Q D X ad nL pc LL [] τ1) → f τ ag → GG p l e R s m args below meth c c9 s9 Q D X ad nL pc LL [] τ) : GG p l e R s m args below meth c cells slots Q D X ad nL pc LL [] τ := by
  obtain ⟨n, hn, h⟩ := h
  have key : ∀ n : Nat, n ≤ B → ∀ (τ : St) , wl0s f n τ → GG p l e R s m args below meth c (cells + (B - n) * mc) (slots + (B - n) * ms) Q D X ad nL pc LL [] τ := by
    intro n
    induction n with
    | zero => intro _ τ h; exact h.elim
    | succ n ih =>
      intro hn τ h
      have e : B - n = (B - (n + 1)) + 1 := by omega
      have e1 : (B - n) * mc = (B - (n + 1)) * mc + mc := by rw [e, Nat.succ_mul]
      have e2 : (B - n) * ms = (B - (n + 1)) * ms + ms := by rw [e, Nat.succ_mul]
      have e3 := Nat.mul_le_mul_right mc (Nat.sub_le B n)
      have e4 := Nat.mul_le_mul_right ms (Nat.sub_le B n)
      refine hs τ (wl0s f n) _ _ (by omega) (by omega) (fun τ1 h1 => ?_) h
      have h2 := ih (by omega) τ1 h1
      rw [e1, e2, ← Nat.add_assoc, ← Nat.add_assoc] at h2
      exact h2
  exact a_wid _ _ (by omega) (by omega) (key n hn τ h)
theorem g_wj0s {J : St → Prop} {B : (St → Prop) → Prop} (pcJ cJ sJ : Nat) (LL : List (Nat × Value)) (SS : List Value) (h : wj0s J B) (hJ : ∀ (τ : St) , J τ → GG p l e R s m args below meth c cJ sJ Q D X ad nL pcJ LL SS τ)
    (hB : ∀ J1 : St → Prop, (∀ (τ : St) , J1 τ → GG p l e R s m args below meth c cJ sJ Q D X ad nL pcJ LL SS τ) → B J1 → GG p l e R s m args below meth c cells slots Q D X ad nL pc ls st σ) : GG p l e R s m args below meth c cells slots Q D X ad nL pc ls st σ := hB J hJ h
theorem g_wl1 {f : Int → (Int → Prop) → Prop} (LL : Int → List (Nat × Value)) {ya : Int} (h : ∃ n, wl1 f n ya)
    (hs : ∀ (ya : Int) (ag : Int → Prop), (∀ (ya1 : Int) , ag ya1 → GG p l e R s m args below meth c cells slots Q D X ad nL pc (LL ya1) [] σ) → f ya ag → GG p l e R s m args below meth c cells slots Q D X ad nL pc (LL ya) [] σ) : GG p l e R s m args below meth c cells slots Q D X ad nL pc (LL ya) [] σ :=
  wl1_run (P := fun ya => GG p l e R s m args below meth c cells slots Q D X ad nL pc (LL ya) [] σ) hs h
theorem g_wj1 {J : Int → Prop} {B : (Int → Prop) → Prop} (pcJ cJ sJ : Nat) (LL : Int → List (Nat × Value)) (SS : Int → List Value) (h : wj1 J B) (hJ : ∀ (ya : Int) , J ya → GG p l e R s m args below meth c cJ sJ Q D X ad nL pcJ (LL ya) (SS ya) σ)
    (hB : ∀ J1 : Int → Prop, (∀ (ya : Int) , J1 ya → GG p l e R s m args below meth c cJ sJ Q D X ad nL pcJ (LL ya) (SS ya) σ) → B J1 → GG p l e R s m args below meth c cells slots Q D X ad nL pc ls st σ) : GG p l e R s m args below meth c cells slots Q D X ad nL pc ls st σ := hB J hJ h
theorem g_wl1s {f : Int → St → (Int → St → Prop) → Prop} (LL : Int → List (Nat × Value)) {ya : Int} {τ : St} (h : ∃ n, wl1s f n ya τ)
    (hs : ∀ (ya : Int) (τ : St) (ag : Int → St → Prop), (∀ (ya1 : Int) (τ1 : St) , ag ya1 τ1 → GG p l e R s m args below meth c cells slots Q D X ad nL pc (LL ya1) [] τ1) → f ya τ ag → GG p l e R s m args below meth c cells slots Q D X ad nL pc (LL ya) [] τ) : GG p l e R s m args below meth c cells slots Q D X ad nL pc (LL ya) [] τ :=
  wl1s_run (P := fun ya τ => GG p l e R s m args below meth c cells slots Q D X ad nL pc (LL ya) [] τ) hs h
theorem g_wb1s {f : Int → St → (Int → St → Prop) → Prop} (B mc ms Tc Ts : Nat) (LL : Int → List (Nat × Value)) {ya : Int} {τ : St} (h : ∃ n, n ≤ B ∧ wl1s f n ya τ) (hTc : B * mc ≤ Tc) (hTs : B * ms ≤ Ts)
    (hs : ∀ (ya : Int) (τ : St) (ag : Int → St → Prop) (c9 s9 : Nat), c9 + mc ≤ cells + Tc → s9 + ms ≤ slots + Ts → (∀ (ya1 : Int) (τ1 : St) , ag ya1 τ1 → GG p l e R s m args below meth c (c9 + mc) (s9 + ms) Q D X ad nL pc (LL ya1) [] τ1) → f ya τ ag → GG p l e R s m args below meth c c9 s9 Q D X ad nL pc (LL ya) [] τ) : GG p l e R s m args below meth c cells slots Q D X ad nL pc (LL ya) [] τ := by
  obtain ⟨n, hn, h⟩ := h
  have key : ∀ n : Nat, n ≤ B → ∀ (ya : Int) (τ : St) , wl1s f n ya τ → GG p l e R s m args below meth c (cells + (B - n) * mc) (slots + (B - n) * ms) Q D X ad nL pc (LL ya) [] τ := by
    intro n
    induction n with
    | zero => intro _ ya τ h; exact h.elim
    | succ n ih =>
      intro hn ya τ h
      have e : B - n = (B - (n + 1)) + 1 := by omega
      have e1 : (B - n) * mc = (B - (n + 1)) * mc + mc := by rw [e, Nat.succ_mul]
      have e2 : (B - n) * ms = (B - (n + 1)) * ms + ms := by rw [e, Nat.succ_mul]
      have e3 := Nat.mul_le_mul_right mc (Nat.sub_le B n)
      have e4 := Nat.mul_le_mul_right ms (Nat.sub_le B n)
      refine hs ya τ (wl1s f n) _ _ (by omega) (by omega) (fun ya1 τ1 h1 => ?_) h
      have h2 := ih (by omega) ya1 τ1 h1
      rw [e1, e2, ← Nat.add_assoc, ← Nat.add_assoc] at h2
      exact h2
  exact a_wid _ _ (by omega) (by omega) (key n hn ya τ h)
theorem g_wj1s {J : Int → St → Prop} {B : (Int → St → Prop) → Prop} (pcJ cJ sJ : Nat) (LL : Int → List (Nat × Value)) (SS : Int → List Value) (h : wj1s J B) (hJ : ∀ (ya : Int) (τ : St) , J ya τ → GG p l e R s m args below meth c cJ sJ Q D X ad nL pcJ (LL ya) (SS ya) τ)
    (hB : ∀ J1 : Int → St → Prop, (∀ (ya : Int) (τ : St) , J1 ya τ → GG p l e R s m args below meth c cJ sJ Q D X ad nL pcJ (LL ya) (SS ya) τ) → B J1 → GG p l e R s m args below meth c cells slots Q D X ad nL pc ls st σ) : GG p l e R s m args below meth c cells slots Q D X ad nL pc ls st σ := hB J hJ h
theorem g_wl2 {f : Int → Int → (Int → Int → Prop) → Prop} (LL : Int → Int → List (Nat × Value)) {ya yb : Int} (h : ∃ n, wl2 f n ya yb)
    (hs : ∀ (ya yb : Int) (ag : Int → Int → Prop), (∀ (ya1 yb1 : Int) , ag ya1 yb1 → GG p l e R s m args below meth c cells slots Q D X ad nL pc (LL ya1 yb1) [] σ) → f ya yb ag → GG p l e R s m args below meth c cells slots Q D X ad nL pc (LL ya yb) [] σ) : GG p l e R s m args below meth c cells slots Q D X ad nL pc (LL ya yb) [] σ :=
  wl2_run (P := fun ya yb => GG p l e R s m args below meth c cells slots Q D X ad nL pc (LL ya yb) [] σ) hs h
theorem g_wj2 {J : Int → Int → Prop} {B : (Int → Int → Prop) → Prop} (pcJ cJ sJ : Nat) (LL : Int → Int → List (Nat × Value)) (SS : Int → Int → List Value) (h : wj2 J B) (hJ : ∀ (ya yb : Int) , J ya yb → GG p l e R s m args below meth c cJ sJ Q D X ad nL pcJ (LL ya yb) (SS ya yb) σ)
    (hB : ∀ J1 : Int → Int → Prop, (∀ (ya yb : Int) , J1 ya yb → GG p l e R s m args below meth c cJ sJ Q D X ad nL pcJ (LL ya yb) (SS ya yb) σ) → B J1 → GG p l e R s m args below meth c cells slots Q D X ad nL pc ls st σ) : GG p l e R s m args below meth c cells slots Q D X ad nL pc ls st σ := hB J hJ h
theorem g_wl2s {f : Int → Int → St → (Int → Int → St → Prop) → Prop} (LL : Int → Int → List (Nat × Value)) {ya yb : Int} {τ : St} (h : ∃ n, wl2s f n ya yb τ)
    (hs : ∀ (ya yb : Int) (τ : St) (ag : Int → Int → St → Prop), (∀ (ya1 yb1 : Int) (τ1 : St) , ag ya1 yb1 τ1 → GG p l e R s m args below meth c cells slots Q D X ad nL pc (LL ya1 yb1) [] τ1) → f ya yb τ ag → GG p l e R s m args below meth c cells slots Q D X ad nL pc (LL ya yb) [] τ) : GG p l e R s m args below meth c cells slots Q D X ad nL pc (LL ya yb) [] τ :=
  wl2s_run (P := fun ya yb τ => GG p l e R s m args below meth c cells slots Q D X ad nL pc (LL ya yb) [] τ) hs h
theorem g_wb2s {f : Int → Int → St → (Int → Int → St → Prop) → Prop} (B mc ms Tc Ts : Nat) (LL : Int → Int → List (Nat × Value)) {ya yb : Int} {τ : St} (h : ∃ n, n ≤ B ∧ wl2s f n ya yb τ) (hTc : B * mc ≤ Tc) (hTs : B * ms ≤ Ts)
    (hs : ∀ (ya yb : Int) (τ : St) (ag : Int → Int → St → Prop) (c9 s9 : Nat), c9 + mc ≤ cells + Tc → s9 + ms ≤ slots + Ts → (∀ (ya1 yb1 : Int) (τ1 : St) , ag ya1 yb1 τ1 → GG p l e R s m args below meth c (c9 + mc) (s9 + ms) Q D X ad nL pc (LL ya1 yb1) [] τ1) → f ya yb τ ag → GG p l e R s m args below meth c c9 s9 Q D X ad nL pc (LL ya yb) [] τ) : GG p l e R s m args below meth c cells slots Q D X ad nL pc (LL ya yb) [] τ := by
  obtain ⟨n, hn, h⟩ := h
  have key : ∀ n : Nat, n ≤ B → ∀ (ya yb : Int) (τ : St) , wl2s f n ya yb τ → GG p l e R s m args below meth c (cells + (B - n) * mc) (slots + (B - n) * ms) Q D X ad nL pc (LL ya yb) [] τ := by
    intro n
    induction n with
    | zero => intro _ ya yb τ h; exact h.elim
    | succ n ih =>
      intro hn ya yb τ h
      have e : B - n = (B - (n + 1)) + 1 := by omega
      have e1 : (B - n) * mc = (B - (n + 1)) * mc + mc := by rw [e, Nat.succ_mul]
      have e2 : (B - n) * ms = (B - (n + 1)) * ms + ms := by rw [e, Nat.succ_mul]
      have e3 := Nat.mul_le_mul_right mc (Nat.sub_le B n)
      have e4 := Nat.mul_le_mul_right ms (Nat.sub_le B n)
      refine hs ya yb τ (wl2s f n) _ _ (by omega) (by omega) (fun ya1 yb1 τ1 h1 => ?_) h
      have h2 := ih (by omega) ya1 yb1 τ1 h1
      rw [e1, e2, ← Nat.add_assoc, ← Nat.add_assoc] at h2
      exact h2
  exact a_wid _ _ (by omega) (by omega) (key n hn ya yb τ h)
theorem g_wj2s {J : Int → Int → St → Prop} {B : (Int → Int → St → Prop) → Prop} (pcJ cJ sJ : Nat) (LL : Int → Int → List (Nat × Value)) (SS : Int → Int → List Value) (h : wj2s J B) (hJ : ∀ (ya yb : Int) (τ : St) , J ya yb τ → GG p l e R s m args below meth c cJ sJ Q D X ad nL pcJ (LL ya yb) (SS ya yb) τ)
    (hB : ∀ J1 : Int → Int → St → Prop, (∀ (ya yb : Int) (τ : St) , J1 ya yb τ → GG p l e R s m args below meth c cJ sJ Q D X ad nL pcJ (LL ya yb) (SS ya yb) τ) → B J1 → GG p l e R s m args below meth c cells slots Q D X ad nL pc ls st σ) : GG p l e R s m args below meth c cells slots Q D X ad nL pc ls st σ := hB J hJ h
theorem g_wl3 {f : Int → Int → Int → (Int → Int → Int → Prop) → Prop} (LL : Int → Int → Int → List (Nat × Value)) {ya yb yc : Int} (h : ∃ n, wl3 f n ya yb yc)
    (hs : ∀ (ya yb yc : Int) (ag : Int → Int → Int → Prop), (∀ (ya1 yb1 yc1 : Int) , ag ya1 yb1 yc1 → GG p l e R s m args below meth c cells slots Q D X ad nL pc (LL ya1 yb1 yc1) [] σ) → f ya yb yc ag → GG p l e R s m args below meth c cells slots Q D X ad nL pc (LL ya yb yc) [] σ) : GG p l e R s m args below meth c cells slots Q D X ad nL pc (LL ya yb yc) [] σ :=
  wl3_run (P := fun ya yb yc => GG p l e R s m args below meth c cells slots Q D X ad nL pc (LL ya yb yc) [] σ) hs h
theorem g_wj3 {J : Int → Int → Int → Prop} {B : (Int → Int → Int → Prop) → Prop} (pcJ cJ sJ : Nat) (LL : Int → Int → Int → List (Nat × Value)) (SS : Int → Int → Int → List Value) (h : wj3 J B) (hJ : ∀ (ya yb yc : Int) , J ya yb yc → GG p l e R s m args below meth c cJ sJ Q D X ad nL pcJ (LL ya yb yc) (SS ya yb yc) σ)
    (hB : ∀ J1 : Int → Int → Int → Prop, (∀ (ya yb yc : Int) , J1 ya yb yc → GG p l e R s m args below meth c cJ sJ Q D X ad nL pcJ (LL ya yb yc) (SS ya yb yc) σ) → B J1 → GG p l e R s m args below meth c cells slots Q D X ad nL pc ls st σ) : GG p l e R s m args below meth c cells slots Q D X ad nL pc ls st σ := hB J hJ h
theorem g_wl3s {f : Int → Int → Int → St → (Int → Int → Int → St → Prop) → Prop} (LL : Int → Int → Int → List (Nat × Value)) {ya yb yc : Int} {τ : St} (h : ∃ n, wl3s f n ya yb yc τ)
    (hs : ∀ (ya yb yc : Int) (τ : St) (ag : Int → Int → Int → St → Prop), (∀ (ya1 yb1 yc1 : Int) (τ1 : St) , ag ya1 yb1 yc1 τ1 → GG p l e R s m args below meth c cells slots Q D X ad nL pc (LL ya1 yb1 yc1) [] τ1) → f ya yb yc τ ag → GG p l e R s m args below meth c cells slots Q D X ad nL pc (LL ya yb yc) [] τ) : GG p l e R s m args below meth c cells slots Q D X ad nL pc (LL ya yb yc) [] τ :=
  wl3s_run (P := fun ya yb yc τ => GG p l e R s m args below meth c cells slots Q D X ad nL pc (LL ya yb yc) [] τ) hs h
theorem g_wb3s {f : Int → Int → Int → St → (Int → Int → Int → St → Prop) → Prop} (B mc ms Tc Ts : Nat) (LL : Int → Int → Int → List (Nat × Value)) {ya yb yc : Int} {τ : St} (h : ∃ n, n ≤ B ∧ wl3s f n ya yb yc τ) (hTc : B * mc ≤ Tc) (hTs : B * ms ≤ Ts)
    (hs : ∀ (ya yb yc : Int) (τ : St) (ag : Int → Int → Int → St → Prop) (c9 s9 : Nat), c9 + mc ≤ cells + Tc → s9 + ms ≤ slots + Ts → (∀ (ya1 yb1 yc1 : Int) (τ1 : St) , ag ya1 yb1 yc1 τ1 → GG p l e R s m args below meth c (c9 + mc) (s9 + ms) Q D X ad nL pc (LL ya1 yb1 yc1) [] τ1) → f ya yb yc τ ag → GG p l e R s m args below meth c c9 s9 Q D X ad nL pc (LL ya yb yc) [] τ) : GG p l e R s m args below meth c cells slots Q D X ad nL pc (LL ya yb yc) [] τ := by
  obtain ⟨n, hn, h⟩ := h
  have key : ∀ n : Nat, n ≤ B → ∀ (ya yb yc : Int) (τ : St) , wl3s f n ya yb yc τ → GG p l e R s m args below meth c (cells + (B - n) * mc) (slots + (B - n) * ms) Q D X ad nL pc (LL ya yb yc) [] τ := by
    intro n
    induction n with
    | zero => intro _ ya yb yc τ h; exact h.elim
    | succ n ih =>
      intro hn ya yb yc τ h
      have e : B - n = (B - (n + 1)) + 1 := by omega
      have e1 : (B - n) * mc = (B - (n + 1)) * mc + mc := by rw [e, Nat.succ_mul]
      have e2 : (B - n) * ms = (B - (n + 1)) * ms + ms := by rw [e, Nat.succ_mul]
      have e3 := Nat.mul_le_mul_right mc (Nat.sub_le B n)
      have e4 := Nat.mul_le_mul_right ms (Nat.sub_le B n)
      refine hs ya yb yc τ (wl3s f n) _ _ (by omega) (by omega) (fun ya1 yb1 yc1 τ1 h1 => ?_) h
      have h2 := ih (by omega) ya1 yb1 yc1 τ1 h1
      rw [e1, e2, ← Nat.add_assoc, ← Nat.add_assoc] at h2
      exact h2
  exact a_wid _ _ (by omega) (by omega) (key n hn ya yb yc τ h)
theorem g_wj3s {J : Int → Int → Int → St → Prop} {B : (Int → Int → Int → St → Prop) → Prop} (pcJ cJ sJ : Nat) (LL : Int → Int → Int → List (Nat × Value)) (SS : Int → Int → Int → List Value) (h : wj3s J B) (hJ : ∀ (ya yb yc : Int) (τ : St) , J ya yb yc τ → GG p l e R s m args below meth c cJ sJ Q D X ad nL pcJ (LL ya yb yc) (SS ya yb yc) τ)
    (hB : ∀ J1 : Int → Int → Int → St → Prop, (∀ (ya yb yc : Int) (τ : St) , J1 ya yb yc τ → GG p l e R s m args below meth c cJ sJ Q D X ad nL pcJ (LL ya yb yc) (SS ya yb yc) τ) → B J1 → GG p l e R s m args below meth c cells slots Q D X ad nL pc ls st σ) : GG p l e R s m args below meth c cells slots Q D X ad nL pc ls st σ := hB J hJ h
theorem g_wl4 {f : Int → Int → Int → Int → (Int → Int → Int → Int → Prop) → Prop} (LL : Int → Int → Int → Int → List (Nat × Value)) {ya yb yc yd : Int} (h : ∃ n, wl4 f n ya yb yc yd)
    (hs : ∀ (ya yb yc yd : Int) (ag : Int → Int → Int → Int → Prop), (∀ (ya1 yb1 yc1 yd1 : Int) , ag ya1 yb1 yc1 yd1 → GG p l e R s m args below meth c cells slots Q D X ad nL pc (LL ya1 yb1 yc1 yd1) [] σ) → f ya yb yc yd ag → GG p l e R s m args below meth c cells slots Q D X ad nL pc (LL ya yb yc yd) [] σ) : GG p l e R s m args below meth c cells slots Q D X ad nL pc (LL ya yb yc yd) [] σ :=
  wl4_run (P := fun ya yb yc yd => GG p l e R s m args below meth c cells slots Q D X ad nL pc (LL ya yb yc yd) [] σ) hs h
theorem g_wj4 {J : Int → Int → Int → Int → Prop} {B : (Int → Int → Int → Int → Prop) → Prop} (pcJ cJ sJ : Nat) (LL : Int → Int → Int → Int → List (Nat × Value)) (SS : Int → Int → Int → Int → List Value) (h : wj4 J B) (hJ : ∀ (ya yb yc yd : Int) , J ya yb yc yd → GG p l e R s m args below meth c cJ sJ Q D X ad nL pcJ (LL ya yb yc yd) (SS ya yb yc yd) σ)
    (hB : ∀ J1 : Int → Int → Int → Int → Prop, (∀ (ya yb yc yd : Int) , J1 ya yb yc yd → GG p l e R s m args below meth c cJ sJ Q D X ad nL pcJ (LL ya yb yc yd) (SS ya yb yc yd) σ) → B J1 → GG p l e R s m args below meth c cells slots Q D X ad nL pc ls st σ) : GG p l e R s m args below meth c cells slots Q D X ad nL pc ls st σ := hB J hJ h
theorem g_wl4s {f : Int → Int → Int → Int → St → (Int → Int → Int → Int → St → Prop) → Prop} (LL : Int → Int → Int → Int → List (Nat × Value)) {ya yb yc yd : Int} {τ : St} (h : ∃ n, wl4s f n ya yb yc yd τ)
    (hs : ∀ (ya yb yc yd : Int) (τ : St) (ag : Int → Int → Int → Int → St → Prop), (∀ (ya1 yb1 yc1 yd1 : Int) (τ1 : St) , ag ya1 yb1 yc1 yd1 τ1 → GG p l e R s m args below meth c cells slots Q D X ad nL pc (LL ya1 yb1 yc1 yd1) [] τ1) → f ya yb yc yd τ ag → GG p l e R s m args below meth c cells slots Q D X ad nL pc (LL ya yb yc yd) [] τ) : GG p l e R s m args below meth c cells slots Q D X ad nL pc (LL ya yb yc yd) [] τ :=
  wl4s_run (P := fun ya yb yc yd τ => GG p l e R s m args below meth c cells slots Q D X ad nL pc (LL ya yb yc yd) [] τ) hs h
theorem g_wb4s {f : Int → Int → Int → Int → St → (Int → Int → Int → Int → St → Prop) → Prop} (B mc ms Tc Ts : Nat) (LL : Int → Int → Int → Int → List (Nat × Value)) {ya yb yc yd : Int} {τ : St} (h : ∃ n, n ≤ B ∧ wl4s f n ya yb yc yd τ) (hTc : B * mc ≤ Tc) (hTs : B * ms ≤ Ts)
    (hs : ∀ (ya yb yc yd : Int) (τ : St) (ag : Int → Int → Int → Int → St → Prop) (c9 s9 : Nat), c9 + mc ≤ cells + Tc → s9 + ms ≤ slots + Ts → (∀ (ya1 yb1 yc1 yd1 : Int) (τ1 : St) , ag ya1 yb1 yc1 yd1 τ1 → GG p l e R s m args below meth c (c9 + mc) (s9 + ms) Q D X ad nL pc (LL ya1 yb1 yc1 yd1) [] τ1) → f ya yb yc yd τ ag → GG p l e R s m args below meth c c9 s9 Q D X ad nL pc (LL ya yb yc yd) [] τ) : GG p l e R s m args below meth c cells slots Q D X ad nL pc (LL ya yb yc yd) [] τ := by
  obtain ⟨n, hn, h⟩ := h
  have key : ∀ n : Nat, n ≤ B → ∀ (ya yb yc yd : Int) (τ : St) , wl4s f n ya yb yc yd τ → GG p l e R s m args below meth c (cells + (B - n) * mc) (slots + (B - n) * ms) Q D X ad nL pc (LL ya yb yc yd) [] τ := by
    intro n
    induction n with
    | zero => intro _ ya yb yc yd τ h; exact h.elim
    | succ n ih =>
      intro hn ya yb yc yd τ h
      have e : B - n = (B - (n + 1)) + 1 := by omega
      have e1 : (B - n) * mc = (B - (n + 1)) * mc + mc := by rw [e, Nat.succ_mul]
      have e2 : (B - n) * ms = (B - (n + 1)) * ms + ms := by rw [e, Nat.succ_mul]
      have e3 := Nat.mul_le_mul_right mc (Nat.sub_le B n)
      have e4 := Nat.mul_le_mul_right ms (Nat.sub_le B n)
      refine hs ya yb yc yd τ (wl4s f n) _ _ (by omega) (by omega) (fun ya1 yb1 yc1 yd1 τ1 h1 => ?_) h
      have h2 := ih (by omega) ya1 yb1 yc1 yd1 τ1 h1
      rw [e1, e2, ← Nat.add_assoc, ← Nat.add_assoc] at h2
      exact h2
  exact a_wid _ _ (by omega) (by omega) (key n hn ya yb yc yd τ h)
theorem g_wj4s {J : Int → Int → Int → Int → St → Prop} {B : (Int → Int → Int → Int → St → Prop) → Prop} (pcJ cJ sJ : Nat) (LL : Int → Int → Int → Int → List (Nat × Value)) (SS : Int → Int → Int → Int → List Value) (h : wj4s J B) (hJ : ∀ (ya yb yc yd : Int) (τ : St) , J ya yb yc yd τ → GG p l e R s m args below meth c cJ sJ Q D X ad nL pcJ (LL ya yb yc yd) (SS ya yb yc yd) τ)
    (hB : ∀ J1 : Int → Int → Int → Int → St → Prop, (∀ (ya yb yc yd : Int) (τ : St) , J1 ya yb yc yd τ → GG p l e R s m args below meth c cJ sJ Q D X ad nL pcJ (LL ya yb yc yd) (SS ya yb yc yd) τ) → B J1 → GG p l e R s m args below meth c cells slots Q D X ad nL pc ls st σ) : GG p l e R s m args below meth c cells slots Q D X ad nL pc ls st σ := hB J hJ h
theorem g_wl5 {f : Int → Int → Int → Int → Int → (Int → Int → Int → Int → Int → Prop) → Prop} (LL : Int → Int → Int → Int → Int → List (Nat × Value)) {ya yb yc yd ye : Int} (h : ∃ n, wl5 f n ya yb yc yd ye)
    (hs : ∀ (ya yb yc yd ye : Int) (ag : Int → Int → Int → Int → Int → Prop), (∀ (ya1 yb1 yc1 yd1 ye1 : Int) , ag ya1 yb1 yc1 yd1 ye1 → GG p l e R s m args below meth c cells slots Q D X ad nL pc (LL ya1 yb1 yc1 yd1 ye1) [] σ) → f ya yb yc yd ye ag → GG p l e R s m args below meth c cells slots Q D X ad nL pc (LL ya yb yc yd ye) [] σ) : GG p l e R s m args below meth c cells slots Q D X ad nL pc (LL ya yb yc yd ye) [] σ :=
  wl5_run (P := fun ya yb yc yd ye => GG p l e R s m args below meth c cells slots Q D X ad nL pc (LL ya yb yc yd ye) [] σ) hs h
theorem g_wj5 {J : Int → Int → Int → Int → Int → Prop} {B : (Int → Int → Int → Int → Int → Prop) → Prop} (pcJ cJ sJ : Nat) (LL : Int → Int → Int → Int → Int → List (Nat × Value)) (SS : Int → Int → Int → Int → Int → List Value) (h : wj5 J B) (hJ : ∀ (ya yb yc yd ye : Int) , J ya yb yc yd ye → GG p l e R s m args below meth c cJ sJ Q D X ad nL pcJ (LL ya yb yc yd ye) (SS ya yb yc yd ye) σ)
    (hB : ∀ J1 : Int → Int → Int → Int → Int → Prop, (∀ (ya yb yc yd ye : Int) , J1 ya yb yc yd ye → GG p l e R s m args below meth c cJ sJ Q D X ad nL pcJ (LL ya yb yc yd ye) (SS ya yb yc yd ye) σ) → B J1 → GG p l e R s m args below meth c cells slots Q D X ad nL pc ls st σ) : GG p l e R s m args below meth c cells slots Q D X ad nL pc ls st σ := hB J hJ h
theorem g_wl5s {f : Int → Int → Int → Int → Int → St → (Int → Int → Int → Int → Int → St → Prop) → Prop} (LL : Int → Int → Int → Int → Int → List (Nat × Value)) {ya yb yc yd ye : Int} {τ : St} (h : ∃ n, wl5s f n ya yb yc yd ye τ)
    (hs : ∀ (ya yb yc yd ye : Int) (τ : St) (ag : Int → Int → Int → Int → Int → St → Prop), (∀ (ya1 yb1 yc1 yd1 ye1 : Int) (τ1 : St) , ag ya1 yb1 yc1 yd1 ye1 τ1 → GG p l e R s m args below meth c cells slots Q D X ad nL pc (LL ya1 yb1 yc1 yd1 ye1) [] τ1) → f ya yb yc yd ye τ ag → GG p l e R s m args below meth c cells slots Q D X ad nL pc (LL ya yb yc yd ye) [] τ) : GG p l e R s m args below meth c cells slots Q D X ad nL pc (LL ya yb yc yd ye) [] τ :=
  wl5s_run (P := fun ya yb yc yd ye τ => GG p l e R s m args below meth c cells slots Q D X ad nL pc (LL ya yb yc yd ye) [] τ) hs h
theorem g_wb5s {f : Int → Int → Int → Int → Int → St → (Int → Int → Int → Int → Int → St → Prop) → Prop} (B mc ms Tc Ts : Nat) (LL : Int → Int → Int → Int → Int → List (Nat × Value)) {ya yb yc yd ye : Int} {τ : St} (h : ∃ n, n ≤ B ∧ wl5s f n ya yb yc yd ye τ) (hTc : B * mc ≤ Tc) (hTs : B * ms ≤ Ts)
    (hs : ∀ (ya yb yc yd ye : Int) (τ : St) (ag : Int → Int → Int → Int → Int → St → Prop) (c9 s9 : Nat), c9 + mc ≤ cells + Tc → s9 + ms ≤ slots + Ts → (∀ (ya1 yb1 yc1 yd1 ye1 : Int) (τ1 : St) , ag ya1 yb1 yc1 yd1 ye1 τ1 → GG p l e R s m args below meth c (c9 + mc) (s9 + ms) Q D X ad nL pc (LL ya1 yb1 yc1 yd1 ye1) [] τ1) → f ya yb yc yd ye τ ag → GG p l e R s m args below meth c c9 s9 Q D X ad nL pc (LL ya yb yc yd ye) [] τ) : GG p l e R s m args below meth c cells slots Q D X ad nL pc (LL ya yb yc yd ye) [] τ := by
  obtain ⟨n, hn, h⟩ := h
  have key : ∀ n : Nat, n ≤ B → ∀ (ya yb yc yd ye : Int) (τ : St) , wl5s f n ya yb yc yd ye τ → GG p l e R s m args below meth c (cells + (B - n) * mc) (slots + (B - n) * ms) Q D X ad nL pc (LL ya yb yc yd ye) [] τ := by
    intro n
    induction n with
    | zero => intro _ ya yb yc yd ye τ h; exact h.elim
    | succ n ih =>
      intro hn ya yb yc yd ye τ h
      have e : B - n = (B - (n + 1)) + 1 := by omega
      have e1 : (B - n) * mc = (B - (n + 1)) * mc + mc := by rw [e, Nat.succ_mul]
      have e2 : (B - n) * ms = (B - (n + 1)) * ms + ms := by rw [e, Nat.succ_mul]
      have e3 := Nat.mul_le_mul_right mc (Nat.sub_le B n)
      have e4 := Nat.mul_le_mul_right ms (Nat.sub_le B n)
      refine hs ya yb yc yd ye τ (wl5s f n) _ _ (by omega) (by omega) (fun ya1 yb1 yc1 yd1 ye1 τ1 h1 => ?_) h
      have h2 := ih (by omega) ya1 yb1 yc1 yd1 ye1 τ1 h1
      rw [e1, e2, ← Nat.add_assoc, ← Nat.add_assoc] at h2
      exact h2
  exact a_wid _ _ (by omega) (by omega) (key n hn ya yb yc yd ye τ h)
theorem g_wj5s {J : Int → Int → Int → Int → Int → St → Prop} {B : (Int → Int → Int → Int → Int → St → Prop) → Prop} (pcJ cJ sJ : Nat) (LL : Int → Int → Int → Int → Int → List (Nat × Value)) (SS : Int → Int → Int → Int → Int → List Value) (h : wj5s J B) (hJ : ∀ (ya yb yc yd ye : Int) (τ : St) , J ya yb yc yd ye τ → GG p l e R s m args below meth c cJ sJ Q D X ad nL pcJ (LL ya yb yc yd ye) (SS ya yb yc yd ye) τ)
    (hB : ∀ J1 : Int → Int → Int → Int → Int → St → Prop, (∀ (ya yb yc yd ye : Int) (τ : St) , J1 ya yb yc yd ye τ → GG p l e R s m args below meth c cJ sJ Q D X ad nL pcJ (LL ya yb yc yd ye) (SS ya yb yc yd ye) τ) → B J1 → GG p l e R s m args below meth c cells slots Q D X ad nL pc ls st σ) : GG p l e R s m args below meth c cells slots Q D X ad nL pc ls st σ := hB J hJ h
theorem g_wl6 {f : Int → Int → Int → Int → Int → Int → (Int → Int → Int → Int → Int → Int → Prop) → Prop} (LL : Int → Int → Int → Int → Int → Int → List (Nat × Value)) {ya yb yc yd ye yf : Int} (h : ∃ n, wl6 f n ya yb yc yd ye yf)
    (hs : ∀ (ya yb yc yd ye yf : Int) (ag : Int → Int → Int → Int → Int → Int → Prop), (∀ (ya1 yb1 yc1 yd1 ye1 yf1 : Int) , ag ya1 yb1 yc1 yd1 ye1 yf1 → GG p l e R s m args below meth c cells slots Q D X ad nL pc (LL ya1 yb1 yc1 yd1 ye1 yf1) [] σ) → f ya yb yc yd ye yf ag → GG p l e R s m args below meth c cells slots Q D X ad nL pc (LL ya yb yc yd ye yf) [] σ) : GG p l e R s m args below meth c cells slots Q D X ad nL pc (LL ya yb yc yd ye yf) [] σ :=
  wl6_run (P := fun ya yb yc yd ye yf => GG p l e R s m args below meth c cells slots Q D X ad nL pc (LL ya yb yc yd ye yf) [] σ) hs h
theorem g_wj6 {J : Int → Int → Int → Int → Int → Int → Prop} {B : (Int → Int → Int → Int → Int → Int → Prop) → Prop} (pcJ cJ sJ : Nat) (LL : Int → Int → Int → Int → Int → Int → List (Nat × Value)) (SS : Int → Int → Int → Int → Int → Int → List Value) (h : wj6 J B) (hJ : ∀ (ya yb yc yd ye yf : Int) , J ya yb yc yd ye yf → GG p l e R s m args below meth c cJ sJ Q D X ad nL pcJ (LL ya yb yc yd ye yf) (SS ya yb yc yd ye yf) σ)
    (hB : ∀ J1 : Int → Int → Int → Int → Int → Int → Prop, (∀ (ya yb yc yd ye yf : Int) , J1 ya yb yc yd ye yf → GG p l e R s m args below meth c cJ sJ Q D X ad nL pcJ (LL ya yb yc yd ye yf) (SS ya yb yc yd ye yf) σ) → B J1 → GG p l e R s m args below meth c cells slots Q D X ad nL pc ls st σ) : GG p l e R s m args below meth c cells slots Q D X ad nL pc ls st σ := hB J hJ h
theorem g_wl6s {f : Int → Int → Int → Int → Int → Int → St → (Int → Int → Int → Int → Int → Int → St → Prop) → Prop} (LL : Int → Int → Int → Int → Int → Int → List (Nat × Value)) {ya yb yc yd ye yf : Int} {τ : St} (h : ∃ n, wl6s f n ya yb yc yd ye yf τ)
    (hs : ∀ (ya yb yc yd ye yf : Int) (τ : St) (ag : Int → Int → Int → Int → Int → Int → St → Prop), (∀ (ya1 yb1 yc1 yd1 ye1 yf1 : Int) (τ1 : St) , ag ya1 yb1 yc1 yd1 ye1 yf1 τ1 → GG p l e R s m args below meth c cells slots Q D X ad nL pc (LL ya1 yb1 yc1 yd1 ye1 yf1) [] τ1) → f ya yb yc yd ye yf τ ag → GG p l e R s m args below meth c cells slots Q D X ad nL pc (LL ya yb yc yd ye yf) [] τ) : GG p l e R s m args below meth c cells slots Q D X ad nL pc (LL ya yb yc yd ye yf) [] τ :=
  wl6s_run (P := fun ya yb yc yd ye yf τ => GG p l e R s m args below meth c cells slots Q D X ad nL pc (LL ya yb yc yd ye yf) [] τ) hs h
theorem g_wb6s {f : Int → Int → Int → Int → Int → Int → St → (Int → Int → Int → Int → Int → Int → St → Prop) → Prop} (B mc ms Tc Ts : Nat) (LL : Int → Int → Int → Int → Int → Int → List (Nat × Value)) {ya yb yc yd ye yf : Int} {τ : St} (h : ∃ n, n ≤ B ∧ wl6s f n ya yb yc yd ye yf τ) (hTc : B * mc ≤ Tc) (hTs : B * ms ≤ Ts)
    (hs : ∀ (ya yb yc yd ye yf : Int) (τ : St) (ag : Int → Int → Int → Int → Int → Int → St → Prop) (c9 s9 : Nat), c9 + mc ≤ cells + Tc → s9 + ms ≤ slots + Ts → (∀ (ya1 yb1 yc1 yd1 ye1 yf1 : Int) (τ1 : St) , ag ya1 yb1 yc1 yd1 ye1 yf1 τ1 → GG p l e R s m args below meth c (c9 + mc) (s9 + ms) Q D X ad nL pc (LL ya1 yb1 yc1 yd1 ye1 yf1) [] τ1) → f ya yb yc yd ye yf τ ag → GG p l e R s m args below meth c c9 s9 Q D X ad nL pc (LL ya yb yc yd ye yf) [] τ) : GG p l e R s m args below meth c cells slots Q D X ad nL pc (LL ya yb yc yd ye yf) [] τ := by
  obtain ⟨n, hn, h⟩ := h
  have key : ∀ n : Nat, n ≤ B → ∀ (ya yb yc yd ye yf : Int) (τ : St) , wl6s f n ya yb yc yd ye yf τ → GG p l e R s m args below meth c (cells + (B - n) * mc) (slots + (B - n) * ms) Q D X ad nL pc (LL ya yb yc yd ye yf) [] τ := by
    intro n
    induction n with
    | zero => intro _ ya yb yc yd ye yf τ h; exact h.elim
    | succ n ih =>
      intro hn ya yb yc yd ye yf τ h
      have e : B - n = (B - (n + 1)) + 1 := by omega
      have e1 : (B - n) * mc = (B - (n + 1)) * mc + mc := by rw [e, Nat.succ_mul]
      have e2 : (B - n) * ms = (B - (n + 1)) * ms + ms := by rw [e, Nat.succ_mul]
      have e3 := Nat.mul_le_mul_right mc (Nat.sub_le B n)
      have e4 := Nat.mul_le_mul_right ms (Nat.sub_le B n)
      refine hs ya yb yc yd ye yf τ (wl6s f n) _ _ (by omega) (by omega) (fun ya1 yb1 yc1 yd1 ye1 yf1 τ1 h1 => ?_) h
      have h2 := ih (by omega) ya1 yb1 yc1 yd1 ye1 yf1 τ1 h1
      rw [e1, e2, ← Nat.add_assoc, ← Nat.add_assoc] at h2
      exact h2
  exact a_wid _ _ (by omega) (by omega) (key n hn ya yb yc yd ye yf τ h)
theorem g_wj6s {J : Int → Int → Int → Int → Int → Int → St → Prop} {B : (Int → Int → Int → Int → Int → Int → St → Prop) → Prop} (pcJ cJ sJ : Nat) (LL : Int → Int → Int → Int → Int → Int → List (Nat × Value)) (SS : Int → Int → Int → Int → Int → Int → List Value) (h : wj6s J B) (hJ : ∀ (ya yb yc yd ye yf : Int) (τ : St) , J ya yb yc yd ye yf τ → GG p l e R s m args below meth c cJ sJ Q D X ad nL pcJ (LL ya yb yc yd ye yf) (SS ya yb yc yd ye yf) τ)
    (hB : ∀ J1 : Int → Int → Int → Int → Int → Int → St → Prop, (∀ (ya yb yc yd ye yf : Int) (τ : St) , J1 ya yb yc yd ye yf τ → GG p l e R s m args below meth c cJ sJ Q D X ad nL pcJ (LL ya yb yc yd ye yf) (SS ya yb yc yd ye yf) τ) → B J1 → GG p l e R s m args below meth c cells slots Q D X ad nL pc ls st σ) : GG p l e R s m args below meth c cells slots Q D X ad nL pc ls st σ := hB J hJ h
theorem g_wl7 {f : Int → Int → Int → Int → Int → Int → Int → (Int → Int → Int → Int → Int → Int → Int → Prop) → Prop} (LL : Int → Int → Int → Int → Int → Int → Int → List (Nat × Value)) {ya yb yc yd ye yf yg : Int} (h : ∃ n, wl7 f n ya yb yc yd ye yf yg)
    (hs : ∀ (ya yb yc yd ye yf yg : Int) (ag : Int → Int → Int → Int → Int → Int → Int → Prop), (∀ (ya1 yb1 yc1 yd1 ye1 yf1 yg1 : Int) , ag ya1 yb1 yc1 yd1 ye1 yf1 yg1 → GG p l e R s m args below meth c cells slots Q D X ad nL pc (LL ya1 yb1 yc1 yd1 ye1 yf1 yg1) [] σ) → f ya yb yc yd ye yf yg ag → GG p l e R s m args below meth c cells slots Q D X ad nL pc (LL ya yb yc yd ye yf yg) [] σ) : GG p l e R s m args below meth c cells slots Q D X ad nL pc (LL ya yb yc yd ye yf yg) [] σ :=
  wl7_run (P := fun ya yb yc yd ye yf yg => GG p l e R s m args below meth c cells slots Q D X ad nL pc (LL ya yb yc yd ye yf yg) [] σ) hs h
theorem g_wj7 {J : Int → Int → Int → Int → Int → Int → Int → Prop} {B : (Int → Int → Int → Int → Int → Int → Int → Prop) → Prop} (pcJ cJ sJ : Nat) (LL : Int → Int → Int → Int → Int → Int → Int → List (Nat × Value)) (SS : Int → Int → Int → Int → Int → Int → Int → List Value) (h : wj7 J B) (hJ : ∀ (ya yb yc yd ye yf yg : Int) , J ya yb yc yd ye yf yg → GG p l e R s m args below meth c cJ sJ Q D X ad nL pcJ (LL ya yb yc yd ye yf yg) (SS ya yb yc yd ye yf yg) σ)
    (hB : ∀ J1 : Int → Int → Int → Int → Int → Int → Int → Prop, (∀ (ya yb yc yd ye yf yg : Int) , J1 ya yb yc yd ye yf yg → GG p l e R s m args below meth c cJ sJ Q D X ad nL pcJ (LL ya yb yc yd ye yf yg) (SS ya yb yc yd ye yf yg) σ) → B J1 → GG p l e R s m args below meth c cells slots Q D X ad nL pc ls st σ) : GG p l e R s m args below meth c cells slots Q D X ad nL pc ls st σ := hB J hJ h
theorem g_wl7s {f : Int → Int → Int → Int → Int → Int → Int → St → (Int → Int → Int → Int → Int → Int → Int → St → Prop) → Prop} (LL : Int → Int → Int → Int → Int → Int → Int → List (Nat × Value)) {ya yb yc yd ye yf yg : Int} {τ : St} (h : ∃ n, wl7s f n ya yb yc yd ye yf yg τ)
    (hs : ∀ (ya yb yc yd ye yf yg : Int) (τ : St) (ag : Int → Int → Int → Int → Int → Int → Int → St → Prop), (∀ (ya1 yb1 yc1 yd1 ye1 yf1 yg1 : Int) (τ1 : St) , ag ya1 yb1 yc1 yd1 ye1 yf1 yg1 τ1 → GG p l e R s m args below meth c cells slots Q D X ad nL pc (LL ya1 yb1 yc1 yd1 ye1 yf1 yg1) [] τ1) → f ya yb yc yd ye yf yg τ ag → GG p l e R s m args below meth c cells slots Q D X ad nL pc (LL ya yb yc yd ye yf yg) [] τ) : GG p l e R s m args below meth c cells slots Q D X ad nL pc (LL ya yb yc yd ye yf yg) [] τ :=
  wl7s_run (P := fun ya yb yc yd ye yf yg τ => GG p l e R s m args below meth c cells slots Q D X ad nL pc (LL ya yb yc yd ye yf yg) [] τ) hs h
theorem g_wj7s {J : Int → Int → Int → Int → Int → Int → Int → St → Prop} {B : (Int → Int → Int → Int → Int → Int → Int → St → Prop) → Prop} (pcJ cJ sJ : Nat) (LL : Int → Int → Int → Int → Int → Int → Int → List (Nat × Value)) (SS : Int → Int → Int → Int → Int → Int → Int → List Value) (h : wj7s J B) (hJ : ∀ (ya yb yc yd ye yf yg : Int) (τ : St) , J ya yb yc yd ye yf yg τ → GG p l e R s m args below meth c cJ sJ Q D X ad nL pcJ (LL ya yb yc yd ye yf yg) (SS ya yb yc yd ye yf yg) τ)
    (hB : ∀ J1 : Int → Int → Int → Int → Int → Int → Int → St → Prop, (∀ (ya yb yc yd ye yf yg : Int) (τ : St) , J1 ya yb yc yd ye yf yg τ → GG p l e R s m args below meth c cJ sJ Q D X ad nL pcJ (LL ya yb yc yd ye yf yg) (SS ya yb yc yd ye yf yg) τ) → B J1 → GG p l e R s m args below meth c cells slots Q D X ad nL pc ls st σ) : GG p l e R s m args below meth c cells slots Q D X ad nL pc ls st σ := hB J hJ h
theorem g_wl8 {f : Int → Int → Int → Int → Int → Int → Int → Int → (Int → Int → Int → Int → Int → Int → Int → Int → Prop) → Prop} (LL : Int → Int → Int → Int → Int → Int → Int → Int → List (Nat × Value)) {ya yb yc yd ye yf yg yh : Int} (h : ∃ n, wl8 f n ya yb yc yd ye yf yg yh)
    (hs : ∀ (ya yb yc yd ye yf yg yh : Int) (ag : Int → Int → Int → Int → Int → Int → Int → Int → Prop), (∀ (ya1 yb1 yc1 yd1 ye1 yf1 yg1 yh1 : Int) , ag ya1 yb1 yc1 yd1 ye1 yf1 yg1 yh1 → GG p l e R s m args below meth c cells slots Q D X ad nL pc (LL ya1 yb1 yc1 yd1 ye1 yf1 yg1 yh1) [] σ) → f ya yb yc yd ye yf yg yh ag → GG p l e R s m args below meth c cells slots Q D X ad nL pc (LL ya yb yc yd ye yf yg yh) [] σ) : GG p l e R s m args below meth c cells slots Q D X ad nL pc (LL ya yb yc yd ye yf yg yh) [] σ :=
  wl8_run (P := fun ya yb yc yd ye yf yg yh => GG p l e R s m args below meth c cells slots Q D X ad nL pc (LL ya yb yc yd ye yf yg yh) [] σ) hs h
theorem g_wj8 {J : Int → Int → Int → Int → Int → Int → Int → Int → Prop} {B : (Int → Int → Int → Int → Int → Int → Int → Int → Prop) → Prop} (pcJ cJ sJ : Nat) (LL : Int → Int → Int → Int → Int → Int → Int → Int → List (Nat × Value)) (SS : Int → Int → Int → Int → Int → Int → Int → Int → List Value) (h : wj8 J B) (hJ : ∀ (ya yb yc yd ye yf yg yh : Int) , J ya yb yc yd ye yf yg yh → GG p l e R s m args below meth c cJ sJ Q D X ad nL pcJ (LL ya yb yc yd ye yf yg yh) (SS ya yb yc yd ye yf yg yh) σ)
    (hB : ∀ J1 : Int → Int → Int → Int → Int → Int → Int → Int → Prop, (∀ (ya yb yc yd ye yf yg yh : Int) , J1 ya yb yc yd ye yf yg yh → GG p l e R s m args below meth c cJ sJ Q D X ad nL pcJ (LL ya yb yc yd ye yf yg yh) (SS ya yb yc yd ye yf yg yh) σ) → B J1 → GG p l e R s m args below meth c cells slots Q D X ad nL pc ls st σ) : GG p l e R s m args below meth c cells slots Q D X ad nL pc ls st σ := hB J hJ h
theorem g_wl8s {f : Int → Int → Int → Int → Int → Int → Int → Int → St → (Int → Int → Int → Int → Int → Int → Int → Int → St → Prop) → Prop} (LL : Int → Int → Int → Int → Int → Int → Int → Int → List (Nat × Value)) {ya yb yc yd ye yf yg yh : Int} {τ : St} (h : ∃ n, wl8s f n ya yb yc yd ye yf yg yh τ)
    (hs : ∀ (ya yb yc yd ye yf yg yh : Int) (τ : St) (ag : Int → Int → Int → Int → Int → Int → Int → Int → St → Prop), (∀ (ya1 yb1 yc1 yd1 ye1 yf1 yg1 yh1 : Int) (τ1 : St) , ag ya1 yb1 yc1 yd1 ye1 yf1 yg1 yh1 τ1 → GG p l e R s m args below meth c cells slots Q D X ad nL pc (LL ya1 yb1 yc1 yd1 ye1 yf1 yg1 yh1) [] τ1) → f ya yb yc yd ye yf yg yh τ ag → GG p l e R s m args below meth c cells slots Q D X ad nL pc (LL ya yb yc yd ye yf yg yh) [] τ) : GG p l e R s m args below meth c cells slots Q D X ad nL pc (LL ya yb yc yd ye yf yg yh) [] τ :=
  wl8s_run (P := fun ya yb yc yd ye yf yg yh τ => GG p l e R s m args below meth c cells slots Q D X ad nL pc (LL ya yb yc yd ye yf yg yh) [] τ) hs h
theorem g_wj8s {J : Int → Int → Int → Int → Int → Int → Int → Int → St → Prop} {B : (Int → Int → Int → Int → Int → Int → Int → Int → St → Prop) → Prop} (pcJ cJ sJ : Nat) (LL : Int → Int → Int → Int → Int → Int → Int → Int → List (Nat × Value)) (SS : Int → Int → Int → Int → Int → Int → Int → Int → List Value) (h : wj8s J B) (hJ : ∀ (ya yb yc yd ye yf yg yh : Int) (τ : St) , J ya yb yc yd ye yf yg yh τ → GG p l e R s m args below meth c cJ sJ Q D X ad nL pcJ (LL ya yb yc yd ye yf yg yh) (SS ya yb yc yd ye yf yg yh) τ)
    (hB : ∀ J1 : Int → Int → Int → Int → Int → Int → Int → Int → St → Prop, (∀ (ya yb yc yd ye yf yg yh : Int) (τ : St) , J1 ya yb yc yd ye yf yg yh τ → GG p l e R s m args below meth c cJ sJ Q D X ad nL pcJ (LL ya yb yc yd ye yf yg yh) (SS ya yb yc yd ye yf yg yh) τ) → B J1 → GG p l e R s m args below meth c cells slots Q D X ad nL pc ls st σ) : GG p l e R s m args below meth c cells slots Q D X ad nL pc ls st σ := hB J hJ h
theorem wd_pc {D : va_G} {X : XI} {ad : Nat → Nat} {σ : St} {sz : Nat} {av : List Value} : FrameBlind (va_Pc av (WD D X ad σ sz)) := by
  rintro a U g mk ⟨h1, h2, h3, h4, h5⟩
  exact ⟨h1, h2, h3, va_K.moved (u := U) (U := U.calling g mk a) (Vm.Alike.refl U.vm) h4, StF.go (U := U.calling g mk a) (State.WarmedH.refl U) h5 (fun _ _ _ => rfl) (fun _ h => h)⟩
theorem wd_at (a : AM p l e s m args meth c own Ts cc nL D X ad) {H : Heap} {locs : List Loc} (hP : va_P D vwCl (wsO X ad σ) H) (hS : va_S (AA ad s.heap.size) s.heap H locs) (U : State) (hU : U.heap = H) (hW : s.WarmedH U.vm) : WD D X ad σ H.size U :=
  ⟨by rw [hU], by rw [hU]; exact hP, va_K.moved hW.alike a.2.1, by rw [hU]; exact StF.go hW a.2.2.2.1 hS.2.1 (fun q h => AA_sub hS.1 h)⟩
theorem a_cvi (a : AM p l e s m args meth c own Ts cc nL D X ad) {y : MethodName} {bytes : ByteArray} {maxL n ix mc ms : Nat} {ret : Option FieldType} {ws : List Cond} {rm : Room} {As rest : List Value} {K : Int → St → Prop} {b ci : Nat} {C : String} {T : u_T} {N : Nat} (hb : tyc b (ci + 4, 0)) (hc : vwCl[ci]? = some (C, T, N)) (hM : ∀ sz : Nat, Met l y ws rm (va_Pc (Value.ref (ad b) :: As) (WD D X ad σ sz)) (QI D X ad sz K) mc ms (AA ad sz)) (cw : CallW R s args own C ix y bytes maxL ret ws rm mc ms n) (hn : As.length = n) (hst : st = As.reverse ++ Value.ref (ad b) :: rest) (hcat : (rest.map fun v => v.category).sum ≤ 8) (hf : cells + mc ≤ R.cells ∧ slots + ms ≤ R.slots) (hdg : decode cc pc = .ok (.invokevirtual ix, 3))
    (k : ∀ (r : Int) (σ1 : St), K r σ1 → GG p l e R s m args below meth c (cells + mc) (slots + ms) Q D X ad nL (pc + 3) ls (vI r :: rest) σ1) : GG p l e R s m args below meth c cells slots Q D X ad nL pc ls st σ := by
  intro H locs la hP hS hl
  subst hst
  have hA : ∀ q, q < H.size → AA ad H.size q → AA ad s.heap.size q := fun q _ h => AA_sub hS.1 h
  have hf1 : ∀ q, AA ad H.size q → AA ad s.heap.size q := fun q h => AA_sub hS.1 h
  exact va_calli (va_runV (As := As) (rest := rest) a.1 (hM H.size) cw ⟨wd_pc, by have h1 := va_recv a.2.1 hP hc (q0 := b) (by rw [ws_get (tw a.2.2.1 hb).1, celO hb.2]); exact h1, fun U hU hW => ⟨rfl, wd_at a hP hS U hU hW⟩⟩ rfl hn hl.1 rfl (lv_room hcat) hdg hf) hS hA hf1 (fun r u t H1 locs1 ht hvm hw hB hz hk hS1 => by
    obtain ⟨rfl, hw⟩ := hw
    exact k u.1 u.2 hw H1 locs1 la (by rw [← ht]; exact hB) hS1 hl)
theorem a_xvi (a : AM p l e s m args meth c own Ts cc nL D X ad) {y : MethodName} {bytes : ByteArray} {maxL n ix mc ms : Nat} {ret : Option FieldType} {ws : List Cond} {rm : Room} {As rest : List Value} {K : Int → St → Prop} {Kx : Nat → St → Prop} {b ci : Nat} {C : String} {T : u_T} {N : Nat} (hb : tyc b (ci + 4, 0)) (hc : vwCl[ci]? = some (C, T, N)) (hM : ∀ sz : Nat, vx_Met l y ws rm (va_Pc (Value.ref (ad b) :: As) (WD D X ad σ sz)) (QI D X ad sz K) (XX D X ad sz Kx) mc ms (AA ad sz)) (cw : CallW R s args own C ix y bytes maxL ret ws rm mc ms n) (hn : As.length = n) (hst : st = As.reverse ++ Value.ref (ad b) :: rest) (hcat : (rest.map fun v => v.category).sum ≤ 8) (hf : cells + mc ≤ R.cells ∧ slots + ms ≤ R.slots) (hdg : decode cc pc = .ok (.invokevirtual ix, 3))
    (kx : ∀ (E : String) (cx : Nat) (ce : Cell) (q9 : Addr) (σ1 : St) (H1 : Heap) (locs1 : List Loc) (la : Array Slot), Kx cx σ1 → E = eNm cx → va_P D vwCl (wsO X ad σ1) H1 → va_S (AA ad s.heap.size) s.heap H1 locs1 → lv_has la nL ls → H1[q9]? = some ce → ce.vm = .none → s.vm.findClass E = some ce.cls → vx_W p l e R s m args below meth c H1 locs1 (cells + mc) (slots + ms) Q (F0 m pc la rest) q9)
    (k : ∀ (r : Int) (σ1 : St), K r σ1 → GG p l e R s m args below meth c (cells + mc) (slots + ms) Q D X ad nL (pc + 3) ls (vI r :: rest) σ1) : GG p l e R s m args below meth c cells slots Q D X ad nL pc ls st σ := by
  intro H locs la hP hS hl
  subst hst
  have hA : ∀ q, q < H.size → AA ad H.size q → AA ad s.heap.size q := fun q _ h => AA_sub hS.1 h
  have hf1 : ∀ q, AA ad H.size q → AA ad s.heap.size q := fun q h => AA_sub hS.1 h
  exact vx_calli (vx_runV (As := As) (rest := rest) a.1 (hM H.size) cw ⟨wd_pc, by have h1 := va_recv a.2.1 hP hc (q0 := b) (by rw [ws_get (tw a.2.2.1 hb).1, celO hb.2]); exact h1, fun U hU hW => ⟨rfl, wd_at a hP hS U hU hW⟩⟩ rfl hn hl.1 rfl (lv_room hcat) hdg hf) hS hA hf1 hA (fun E ce q9 u t H1 locs1 ht hvm hw hB hz hk hS1 h1 h2 h3 => kx E u.1 ce q9 u.2 H1 locs1 la hw hB.1 (by rw [← ht]; exact hB.2) hS1 hl h1 h2 h3) (fun r u t H1 locs1 ht hvm hw hB hz hk hS1 => by
    obtain ⟨rfl, hw⟩ := hw
    exact k u.1 u.2 hw H1 locs1 la (by rw [← ht]; exact hB) hS1 hl)
theorem a_cvj (a : AM p l e s m args meth c own Ts cc nL D X ad) {y : MethodName} {bytes : ByteArray} {maxL n ix mc ms : Nat} {ret : Option FieldType} {ws : List Cond} {rm : Room} {As rest : List Value} {K : Int → St → Prop} {b ci : Nat} {C : String} {T : u_T} {N : Nat} (hb : tyc b (ci + 4, 0)) (hc : vwCl[ci]? = some (C, T, N)) (hM : ∀ sz : Nat, Met l y ws rm (va_Pc (Value.ref (ad b) :: As) (WD D X ad σ sz)) (QJ D X ad sz K) mc ms (AA ad sz)) (cw : CallW R s args own C ix y bytes maxL ret ws rm mc ms n) (hn : As.length = n) (hst : st = As.reverse ++ Value.ref (ad b) :: rest) (hcat : (rest.map fun v => v.category).sum ≤ 8) (hf : cells + mc ≤ R.cells ∧ slots + ms ≤ R.slots) (hdg : decode cc pc = .ok (.invokevirtual ix, 3))
    (k : ∀ (r : Int) (σ1 : St), K r σ1 → GG p l e R s m args below meth c (cells + mc) (slots + ms) Q D X ad nL (pc + 3) ls (vJ r :: rest) σ1) : GG p l e R s m args below meth c cells slots Q D X ad nL pc ls st σ := by
  intro H locs la hP hS hl
  subst hst
  have hA : ∀ q, q < H.size → AA ad H.size q → AA ad s.heap.size q := fun q _ h => AA_sub hS.1 h
  have hf1 : ∀ q, AA ad H.size q → AA ad s.heap.size q := fun q h => AA_sub hS.1 h
  exact va_calll (va_runV (As := As) (rest := rest) a.1 (hM H.size) cw ⟨wd_pc, by have h1 := va_recv a.2.1 hP hc (q0 := b) (by rw [ws_get (tw a.2.2.1 hb).1, celO hb.2]); exact h1, fun U hU hW => ⟨rfl, wd_at a hP hS U hU hW⟩⟩ rfl hn hl.1 rfl (lv_room hcat) hdg hf) hS hA hf1 (fun r u t H1 locs1 ht hvm hw hB hz hk hS1 => by
    obtain ⟨rfl, hw⟩ := hw
    exact k u.1 u.2 hw H1 locs1 la (by rw [← ht]; exact hB) hS1 hl)
theorem a_xvj (a : AM p l e s m args meth c own Ts cc nL D X ad) {y : MethodName} {bytes : ByteArray} {maxL n ix mc ms : Nat} {ret : Option FieldType} {ws : List Cond} {rm : Room} {As rest : List Value} {K : Int → St → Prop} {Kx : Nat → St → Prop} {b ci : Nat} {C : String} {T : u_T} {N : Nat} (hb : tyc b (ci + 4, 0)) (hc : vwCl[ci]? = some (C, T, N)) (hM : ∀ sz : Nat, vx_Met l y ws rm (va_Pc (Value.ref (ad b) :: As) (WD D X ad σ sz)) (QJ D X ad sz K) (XX D X ad sz Kx) mc ms (AA ad sz)) (cw : CallW R s args own C ix y bytes maxL ret ws rm mc ms n) (hn : As.length = n) (hst : st = As.reverse ++ Value.ref (ad b) :: rest) (hcat : (rest.map fun v => v.category).sum ≤ 8) (hf : cells + mc ≤ R.cells ∧ slots + ms ≤ R.slots) (hdg : decode cc pc = .ok (.invokevirtual ix, 3))
    (kx : ∀ (E : String) (cx : Nat) (ce : Cell) (q9 : Addr) (σ1 : St) (H1 : Heap) (locs1 : List Loc) (la : Array Slot), Kx cx σ1 → E = eNm cx → va_P D vwCl (wsO X ad σ1) H1 → va_S (AA ad s.heap.size) s.heap H1 locs1 → lv_has la nL ls → H1[q9]? = some ce → ce.vm = .none → s.vm.findClass E = some ce.cls → vx_W p l e R s m args below meth c H1 locs1 (cells + mc) (slots + ms) Q (F0 m pc la rest) q9)
    (k : ∀ (r : Int) (σ1 : St), K r σ1 → GG p l e R s m args below meth c (cells + mc) (slots + ms) Q D X ad nL (pc + 3) ls (vJ r :: rest) σ1) : GG p l e R s m args below meth c cells slots Q D X ad nL pc ls st σ := by
  intro H locs la hP hS hl
  subst hst
  have hA : ∀ q, q < H.size → AA ad H.size q → AA ad s.heap.size q := fun q _ h => AA_sub hS.1 h
  have hf1 : ∀ q, AA ad H.size q → AA ad s.heap.size q := fun q h => AA_sub hS.1 h
  exact vx_calll (vx_runV (As := As) (rest := rest) a.1 (hM H.size) cw ⟨wd_pc, by have h1 := va_recv a.2.1 hP hc (q0 := b) (by rw [ws_get (tw a.2.2.1 hb).1, celO hb.2]); exact h1, fun U hU hW => ⟨rfl, wd_at a hP hS U hU hW⟩⟩ rfl hn hl.1 rfl (lv_room hcat) hdg hf) hS hA hf1 hA (fun E ce q9 u t H1 locs1 ht hvm hw hB hz hk hS1 h1 h2 h3 => kx E u.1 ce q9 u.2 H1 locs1 la hw hB.1 (by rw [← ht]; exact hB.2) hS1 hl h1 h2 h3) (fun r u t H1 locs1 ht hvm hw hB hz hk hS1 => by
    obtain ⟨rfl, hw⟩ := hw
    exact k u.1 u.2 hw H1 locs1 la (by rw [← ht]; exact hB) hS1 hl)
theorem a_cvd (a : AM p l e s m args meth c own Ts cc nL D X ad) {y : MethodName} {bytes : ByteArray} {maxL n ix mc ms : Nat} {ret : Option FieldType} {ws : List Cond} {rm : Room} {As rest : List Value} {K : UInt64 → St → Prop} {b ci : Nat} {C : String} {T : u_T} {N : Nat} (hb : tyc b (ci + 4, 0)) (hc : vwCl[ci]? = some (C, T, N)) (hM : ∀ sz : Nat, Met l y ws rm (va_Pc (Value.ref (ad b) :: As) (WD D X ad σ sz)) (QD D X ad sz K) mc ms (AA ad sz)) (cw : CallW R s args own C ix y bytes maxL ret ws rm mc ms n) (hn : As.length = n) (hst : st = As.reverse ++ Value.ref (ad b) :: rest) (hcat : (rest.map fun v => v.category).sum ≤ 8) (hf : cells + mc ≤ R.cells ∧ slots + ms ≤ R.slots) (hdg : decode cc pc = .ok (.invokevirtual ix, 3))
    (k : ∀ (r : UInt64) (σ1 : St), K r σ1 → GG p l e R s m args below meth c (cells + mc) (slots + ms) Q D X ad nL (pc + 3) ls (Value.double r :: rest) σ1) : GG p l e R s m args below meth c cells slots Q D X ad nL pc ls st σ := by
  intro H locs la hP hS hl
  subst hst
  have hA : ∀ q, q < H.size → AA ad H.size q → AA ad s.heap.size q := fun q _ h => AA_sub hS.1 h
  have hf1 : ∀ q, AA ad H.size q → AA ad s.heap.size q := fun q h => AA_sub hS.1 h
  exact va_calld (va_runV (As := As) (rest := rest) a.1 (hM H.size) cw ⟨wd_pc, by have h1 := va_recv a.2.1 hP hc (q0 := b) (by rw [ws_get (tw a.2.2.1 hb).1, celO hb.2]); exact h1, fun U hU hW => ⟨rfl, wd_at a hP hS U hU hW⟩⟩ rfl hn hl.1 rfl (lv_room hcat) hdg hf) hS hA hf1 (fun r u t H1 locs1 ht hvm hw hB hz hk hS1 => by
    obtain ⟨rfl, hw⟩ := hw
    exact k u.1 u.2 hw H1 locs1 la (by rw [← ht]; exact hB) hS1 hl)
theorem a_xvd (a : AM p l e s m args meth c own Ts cc nL D X ad) {y : MethodName} {bytes : ByteArray} {maxL n ix mc ms : Nat} {ret : Option FieldType} {ws : List Cond} {rm : Room} {As rest : List Value} {K : UInt64 → St → Prop} {Kx : Nat → St → Prop} {b ci : Nat} {C : String} {T : u_T} {N : Nat} (hb : tyc b (ci + 4, 0)) (hc : vwCl[ci]? = some (C, T, N)) (hM : ∀ sz : Nat, vx_Met l y ws rm (va_Pc (Value.ref (ad b) :: As) (WD D X ad σ sz)) (QD D X ad sz K) (XX D X ad sz Kx) mc ms (AA ad sz)) (cw : CallW R s args own C ix y bytes maxL ret ws rm mc ms n) (hn : As.length = n) (hst : st = As.reverse ++ Value.ref (ad b) :: rest) (hcat : (rest.map fun v => v.category).sum ≤ 8) (hf : cells + mc ≤ R.cells ∧ slots + ms ≤ R.slots) (hdg : decode cc pc = .ok (.invokevirtual ix, 3))
    (kx : ∀ (E : String) (cx : Nat) (ce : Cell) (q9 : Addr) (σ1 : St) (H1 : Heap) (locs1 : List Loc) (la : Array Slot), Kx cx σ1 → E = eNm cx → va_P D vwCl (wsO X ad σ1) H1 → va_S (AA ad s.heap.size) s.heap H1 locs1 → lv_has la nL ls → H1[q9]? = some ce → ce.vm = .none → s.vm.findClass E = some ce.cls → vx_W p l e R s m args below meth c H1 locs1 (cells + mc) (slots + ms) Q (F0 m pc la rest) q9)
    (k : ∀ (r : UInt64) (σ1 : St), K r σ1 → GG p l e R s m args below meth c (cells + mc) (slots + ms) Q D X ad nL (pc + 3) ls (Value.double r :: rest) σ1) : GG p l e R s m args below meth c cells slots Q D X ad nL pc ls st σ := by
  intro H locs la hP hS hl
  subst hst
  have hA : ∀ q, q < H.size → AA ad H.size q → AA ad s.heap.size q := fun q _ h => AA_sub hS.1 h
  have hf1 : ∀ q, AA ad H.size q → AA ad s.heap.size q := fun q h => AA_sub hS.1 h
  exact vx_calld (vx_runV (As := As) (rest := rest) a.1 (hM H.size) cw ⟨wd_pc, by have h1 := va_recv a.2.1 hP hc (q0 := b) (by rw [ws_get (tw a.2.2.1 hb).1, celO hb.2]); exact h1, fun U hU hW => ⟨rfl, wd_at a hP hS U hU hW⟩⟩ rfl hn hl.1 rfl (lv_room hcat) hdg hf) hS hA hf1 hA (fun E ce q9 u t H1 locs1 ht hvm hw hB hz hk hS1 h1 h2 h3 => kx E u.1 ce q9 u.2 H1 locs1 la hw hB.1 (by rw [← ht]; exact hB.2) hS1 hl h1 h2 h3) (fun r u t H1 locs1 ht hvm hw hB hz hk hS1 => by
    obtain ⟨rfl, hw⟩ := hw
    exact k u.1 u.2 hw H1 locs1 la (by rw [← ht]; exact hB) hS1 hl)
theorem a_cvv (a : AM p l e s m args meth c own Ts cc nL D X ad) {y : MethodName} {bytes : ByteArray} {maxL n ix mc ms : Nat} {ret : Option FieldType} {ws : List Cond} {rm : Room} {As rest : List Value} {K : St → Prop} {b ci : Nat} {C : String} {T : u_T} {N : Nat} (hb : tyc b (ci + 4, 0)) (hc : vwCl[ci]? = some (C, T, N)) (hM : ∀ sz : Nat, Met l y ws rm (va_Pc (Value.ref (ad b) :: As) (WD D X ad σ sz)) (QV D X ad sz K) mc ms (AA ad sz)) (cw : CallW R s args own C ix y bytes maxL ret ws rm mc ms n) (hn : As.length = n) (hst : st = As.reverse ++ Value.ref (ad b) :: rest) (hcat : (rest.map fun v => v.category).sum ≤ 8) (hf : cells + mc ≤ R.cells ∧ slots + ms ≤ R.slots) (hdg : decode cc pc = .ok (.invokevirtual ix, 3))
    (k : ∀ (σ1 : St), K σ1 → GG p l e R s m args below meth c (cells + mc) (slots + ms) Q D X ad nL (pc + 3) ls (rest) σ1) : GG p l e R s m args below meth c cells slots Q D X ad nL pc ls st σ := by
  intro H locs la hP hS hl
  subst hst
  have hA : ∀ q, q < H.size → AA ad H.size q → AA ad s.heap.size q := fun q _ h => AA_sub hS.1 h
  have hf1 : ∀ q, AA ad H.size q → AA ad s.heap.size q := fun q h => AA_sub hS.1 h
  exact va_callv (va_runV (As := As) (rest := rest) a.1 (hM H.size) cw ⟨wd_pc, by have h1 := va_recv a.2.1 hP hc (q0 := b) (by rw [ws_get (tw a.2.2.1 hb).1, celO hb.2]); exact h1, fun U hU hW => ⟨rfl, wd_at a hP hS U hU hW⟩⟩ rfl hn hl.1 rfl (lv_room hcat) hdg hf) hS hA hf1 (fun u t H1 locs1 ht hvm hw hB hz hk hS1 => k u hw H1 locs1 la (by rw [← ht]; exact hB) hS1 hl)
theorem a_xvv (a : AM p l e s m args meth c own Ts cc nL D X ad) {y : MethodName} {bytes : ByteArray} {maxL n ix mc ms : Nat} {ret : Option FieldType} {ws : List Cond} {rm : Room} {As rest : List Value} {K : St → Prop} {Kx : Nat → St → Prop} {b ci : Nat} {C : String} {T : u_T} {N : Nat} (hb : tyc b (ci + 4, 0)) (hc : vwCl[ci]? = some (C, T, N)) (hM : ∀ sz : Nat, vx_Met l y ws rm (va_Pc (Value.ref (ad b) :: As) (WD D X ad σ sz)) (QV D X ad sz K) (XX D X ad sz Kx) mc ms (AA ad sz)) (cw : CallW R s args own C ix y bytes maxL ret ws rm mc ms n) (hn : As.length = n) (hst : st = As.reverse ++ Value.ref (ad b) :: rest) (hcat : (rest.map fun v => v.category).sum ≤ 8) (hf : cells + mc ≤ R.cells ∧ slots + ms ≤ R.slots) (hdg : decode cc pc = .ok (.invokevirtual ix, 3))
    (kx : ∀ (E : String) (cx : Nat) (ce : Cell) (q9 : Addr) (σ1 : St) (H1 : Heap) (locs1 : List Loc) (la : Array Slot), Kx cx σ1 → E = eNm cx → va_P D vwCl (wsO X ad σ1) H1 → va_S (AA ad s.heap.size) s.heap H1 locs1 → lv_has la nL ls → H1[q9]? = some ce → ce.vm = .none → s.vm.findClass E = some ce.cls → vx_W p l e R s m args below meth c H1 locs1 (cells + mc) (slots + ms) Q (F0 m pc la rest) q9)
    (k : ∀ (σ1 : St), K σ1 → GG p l e R s m args below meth c (cells + mc) (slots + ms) Q D X ad nL (pc + 3) ls (rest) σ1) : GG p l e R s m args below meth c cells slots Q D X ad nL pc ls st σ := by
  intro H locs la hP hS hl
  subst hst
  have hA : ∀ q, q < H.size → AA ad H.size q → AA ad s.heap.size q := fun q _ h => AA_sub hS.1 h
  have hf1 : ∀ q, AA ad H.size q → AA ad s.heap.size q := fun q h => AA_sub hS.1 h
  exact vx_callv (vx_runV (As := As) (rest := rest) a.1 (hM H.size) cw ⟨wd_pc, by have h1 := va_recv a.2.1 hP hc (q0 := b) (by rw [ws_get (tw a.2.2.1 hb).1, celO hb.2]); exact h1, fun U hU hW => ⟨rfl, wd_at a hP hS U hU hW⟩⟩ rfl hn hl.1 rfl (lv_room hcat) hdg hf) hS hA hf1 hA (fun E ce q9 u t H1 locs1 ht hvm hw hB hz hk hS1 h1 h2 h3 => kx E u.1 ce q9 u.2 H1 locs1 la hw hB.1 (by rw [← ht]; exact hB.2) hS1 hl h1 h2 h3) (fun u t H1 locs1 ht hvm hw hB hz hk hS1 => k u hw H1 locs1 la (by rw [← ht]; exact hB) hS1 hl)
theorem a_csi (a : AM p l e s m args meth c own Ts cc nL D X ad) {y : MethodName} {bytes : ByteArray} {maxL n ix mc ms : Nat} {ret : Option FieldType} {ws : List Cond} {rm : Room} {As rest : List Value} {K : Int → St → Prop}  (hM : ∀ sz : Nat, Met l y ws rm (va_Pc As (WD D X ad σ sz)) (QI D X ad sz K) mc ms (AA ad sz)) (cw : CallB R s args own ix y bytes maxL ret ws rm mc ms n ∧ (Cond.static y).before args s = true) (hn : As.length = n) (hst : st = As.reverse ++ rest) (hcat : (rest.map fun v => v.category).sum ≤ 8) (hf : cells + mc ≤ R.cells ∧ slots + ms ≤ R.slots) (hdg : decode cc pc = .ok (.invokestatic ix, 3))
    (k : ∀ (r : Int) (σ1 : St), K r σ1 → GG p l e R s m args below meth c (cells + mc) (slots + ms) Q D X ad nL (pc + 3) ls (vI r :: rest) σ1) : GG p l e R s m args below meth c cells slots Q D X ad nL pc ls st σ := by
  intro H locs la hP hS hl
  subst hst
  have hA : ∀ q, q < H.size → AA ad H.size q → AA ad s.heap.size q := fun q _ h => AA_sub hS.1 h
  have hf1 : ∀ q, AA ad H.size q → AA ad s.heap.size q := fun q h => AA_sub hS.1 h
  exact va_calli (va_runS (As := As) (rest := rest) a.1 (hM H.size) cw ⟨wd_pc, fun U hU hW => ⟨rfl, wd_at a hP hS U hU hW⟩⟩ rfl hn hl.1 rfl (lv_room hcat) hdg hf) hS hA hf1 (fun r u t H1 locs1 ht hvm hw hB hz hk hS1 => by
    obtain ⟨rfl, hw⟩ := hw
    exact k u.1 u.2 hw H1 locs1 la (by rw [← ht]; exact hB) hS1 hl)
theorem a_xsi (a : AM p l e s m args meth c own Ts cc nL D X ad) {y : MethodName} {bytes : ByteArray} {maxL n ix mc ms : Nat} {ret : Option FieldType} {ws : List Cond} {rm : Room} {As rest : List Value} {K : Int → St → Prop} {Kx : Nat → St → Prop}  (hM : ∀ sz : Nat, vx_Met l y ws rm (va_Pc As (WD D X ad σ sz)) (QI D X ad sz K) (XX D X ad sz Kx) mc ms (AA ad sz)) (cw : CallB R s args own ix y bytes maxL ret ws rm mc ms n ∧ (Cond.static y).before args s = true) (hn : As.length = n) (hst : st = As.reverse ++ rest) (hcat : (rest.map fun v => v.category).sum ≤ 8) (hf : cells + mc ≤ R.cells ∧ slots + ms ≤ R.slots) (hdg : decode cc pc = .ok (.invokestatic ix, 3))
    (kx : ∀ (E : String) (cx : Nat) (ce : Cell) (q9 : Addr) (σ1 : St) (H1 : Heap) (locs1 : List Loc) (la : Array Slot), Kx cx σ1 → E = eNm cx → va_P D vwCl (wsO X ad σ1) H1 → va_S (AA ad s.heap.size) s.heap H1 locs1 → lv_has la nL ls → H1[q9]? = some ce → ce.vm = .none → s.vm.findClass E = some ce.cls → vx_W p l e R s m args below meth c H1 locs1 (cells + mc) (slots + ms) Q (F0 m pc la rest) q9)
    (k : ∀ (r : Int) (σ1 : St), K r σ1 → GG p l e R s m args below meth c (cells + mc) (slots + ms) Q D X ad nL (pc + 3) ls (vI r :: rest) σ1) : GG p l e R s m args below meth c cells slots Q D X ad nL pc ls st σ := by
  intro H locs la hP hS hl
  subst hst
  have hA : ∀ q, q < H.size → AA ad H.size q → AA ad s.heap.size q := fun q _ h => AA_sub hS.1 h
  have hf1 : ∀ q, AA ad H.size q → AA ad s.heap.size q := fun q h => AA_sub hS.1 h
  exact vx_calli (vx_runS (As := As) (rest := rest) a.1 (hM H.size) cw ⟨wd_pc, fun U hU hW => ⟨rfl, wd_at a hP hS U hU hW⟩⟩ rfl hn hl.1 rfl (lv_room hcat) hdg hf) hS hA hf1 hA (fun E ce q9 u t H1 locs1 ht hvm hw hB hz hk hS1 h1 h2 h3 => kx E u.1 ce q9 u.2 H1 locs1 la hw hB.1 (by rw [← ht]; exact hB.2) hS1 hl h1 h2 h3) (fun r u t H1 locs1 ht hvm hw hB hz hk hS1 => by
    obtain ⟨rfl, hw⟩ := hw
    exact k u.1 u.2 hw H1 locs1 la (by rw [← ht]; exact hB) hS1 hl)
theorem a_csj (a : AM p l e s m args meth c own Ts cc nL D X ad) {y : MethodName} {bytes : ByteArray} {maxL n ix mc ms : Nat} {ret : Option FieldType} {ws : List Cond} {rm : Room} {As rest : List Value} {K : Int → St → Prop}  (hM : ∀ sz : Nat, Met l y ws rm (va_Pc As (WD D X ad σ sz)) (QJ D X ad sz K) mc ms (AA ad sz)) (cw : CallB R s args own ix y bytes maxL ret ws rm mc ms n ∧ (Cond.static y).before args s = true) (hn : As.length = n) (hst : st = As.reverse ++ rest) (hcat : (rest.map fun v => v.category).sum ≤ 8) (hf : cells + mc ≤ R.cells ∧ slots + ms ≤ R.slots) (hdg : decode cc pc = .ok (.invokestatic ix, 3))
    (k : ∀ (r : Int) (σ1 : St), K r σ1 → GG p l e R s m args below meth c (cells + mc) (slots + ms) Q D X ad nL (pc + 3) ls (vJ r :: rest) σ1) : GG p l e R s m args below meth c cells slots Q D X ad nL pc ls st σ := by
  intro H locs la hP hS hl
  subst hst
  have hA : ∀ q, q < H.size → AA ad H.size q → AA ad s.heap.size q := fun q _ h => AA_sub hS.1 h
  have hf1 : ∀ q, AA ad H.size q → AA ad s.heap.size q := fun q h => AA_sub hS.1 h
  exact va_calll (va_runS (As := As) (rest := rest) a.1 (hM H.size) cw ⟨wd_pc, fun U hU hW => ⟨rfl, wd_at a hP hS U hU hW⟩⟩ rfl hn hl.1 rfl (lv_room hcat) hdg hf) hS hA hf1 (fun r u t H1 locs1 ht hvm hw hB hz hk hS1 => by
    obtain ⟨rfl, hw⟩ := hw
    exact k u.1 u.2 hw H1 locs1 la (by rw [← ht]; exact hB) hS1 hl)
theorem a_xsj (a : AM p l e s m args meth c own Ts cc nL D X ad) {y : MethodName} {bytes : ByteArray} {maxL n ix mc ms : Nat} {ret : Option FieldType} {ws : List Cond} {rm : Room} {As rest : List Value} {K : Int → St → Prop} {Kx : Nat → St → Prop}  (hM : ∀ sz : Nat, vx_Met l y ws rm (va_Pc As (WD D X ad σ sz)) (QJ D X ad sz K) (XX D X ad sz Kx) mc ms (AA ad sz)) (cw : CallB R s args own ix y bytes maxL ret ws rm mc ms n ∧ (Cond.static y).before args s = true) (hn : As.length = n) (hst : st = As.reverse ++ rest) (hcat : (rest.map fun v => v.category).sum ≤ 8) (hf : cells + mc ≤ R.cells ∧ slots + ms ≤ R.slots) (hdg : decode cc pc = .ok (.invokestatic ix, 3))
    (kx : ∀ (E : String) (cx : Nat) (ce : Cell) (q9 : Addr) (σ1 : St) (H1 : Heap) (locs1 : List Loc) (la : Array Slot), Kx cx σ1 → E = eNm cx → va_P D vwCl (wsO X ad σ1) H1 → va_S (AA ad s.heap.size) s.heap H1 locs1 → lv_has la nL ls → H1[q9]? = some ce → ce.vm = .none → s.vm.findClass E = some ce.cls → vx_W p l e R s m args below meth c H1 locs1 (cells + mc) (slots + ms) Q (F0 m pc la rest) q9)
    (k : ∀ (r : Int) (σ1 : St), K r σ1 → GG p l e R s m args below meth c (cells + mc) (slots + ms) Q D X ad nL (pc + 3) ls (vJ r :: rest) σ1) : GG p l e R s m args below meth c cells slots Q D X ad nL pc ls st σ := by
  intro H locs la hP hS hl
  subst hst
  have hA : ∀ q, q < H.size → AA ad H.size q → AA ad s.heap.size q := fun q _ h => AA_sub hS.1 h
  have hf1 : ∀ q, AA ad H.size q → AA ad s.heap.size q := fun q h => AA_sub hS.1 h
  exact vx_calll (vx_runS (As := As) (rest := rest) a.1 (hM H.size) cw ⟨wd_pc, fun U hU hW => ⟨rfl, wd_at a hP hS U hU hW⟩⟩ rfl hn hl.1 rfl (lv_room hcat) hdg hf) hS hA hf1 hA (fun E ce q9 u t H1 locs1 ht hvm hw hB hz hk hS1 h1 h2 h3 => kx E u.1 ce q9 u.2 H1 locs1 la hw hB.1 (by rw [← ht]; exact hB.2) hS1 hl h1 h2 h3) (fun r u t H1 locs1 ht hvm hw hB hz hk hS1 => by
    obtain ⟨rfl, hw⟩ := hw
    exact k u.1 u.2 hw H1 locs1 la (by rw [← ht]; exact hB) hS1 hl)
theorem a_csd (a : AM p l e s m args meth c own Ts cc nL D X ad) {y : MethodName} {bytes : ByteArray} {maxL n ix mc ms : Nat} {ret : Option FieldType} {ws : List Cond} {rm : Room} {As rest : List Value} {K : UInt64 → St → Prop}  (hM : ∀ sz : Nat, Met l y ws rm (va_Pc As (WD D X ad σ sz)) (QD D X ad sz K) mc ms (AA ad sz)) (cw : CallB R s args own ix y bytes maxL ret ws rm mc ms n ∧ (Cond.static y).before args s = true) (hn : As.length = n) (hst : st = As.reverse ++ rest) (hcat : (rest.map fun v => v.category).sum ≤ 8) (hf : cells + mc ≤ R.cells ∧ slots + ms ≤ R.slots) (hdg : decode cc pc = .ok (.invokestatic ix, 3))
    (k : ∀ (r : UInt64) (σ1 : St), K r σ1 → GG p l e R s m args below meth c (cells + mc) (slots + ms) Q D X ad nL (pc + 3) ls (Value.double r :: rest) σ1) : GG p l e R s m args below meth c cells slots Q D X ad nL pc ls st σ := by
  intro H locs la hP hS hl
  subst hst
  have hA : ∀ q, q < H.size → AA ad H.size q → AA ad s.heap.size q := fun q _ h => AA_sub hS.1 h
  have hf1 : ∀ q, AA ad H.size q → AA ad s.heap.size q := fun q h => AA_sub hS.1 h
  exact va_calld (va_runS (As := As) (rest := rest) a.1 (hM H.size) cw ⟨wd_pc, fun U hU hW => ⟨rfl, wd_at a hP hS U hU hW⟩⟩ rfl hn hl.1 rfl (lv_room hcat) hdg hf) hS hA hf1 (fun r u t H1 locs1 ht hvm hw hB hz hk hS1 => by
    obtain ⟨rfl, hw⟩ := hw
    exact k u.1 u.2 hw H1 locs1 la (by rw [← ht]; exact hB) hS1 hl)
theorem a_xsd (a : AM p l e s m args meth c own Ts cc nL D X ad) {y : MethodName} {bytes : ByteArray} {maxL n ix mc ms : Nat} {ret : Option FieldType} {ws : List Cond} {rm : Room} {As rest : List Value} {K : UInt64 → St → Prop} {Kx : Nat → St → Prop}  (hM : ∀ sz : Nat, vx_Met l y ws rm (va_Pc As (WD D X ad σ sz)) (QD D X ad sz K) (XX D X ad sz Kx) mc ms (AA ad sz)) (cw : CallB R s args own ix y bytes maxL ret ws rm mc ms n ∧ (Cond.static y).before args s = true) (hn : As.length = n) (hst : st = As.reverse ++ rest) (hcat : (rest.map fun v => v.category).sum ≤ 8) (hf : cells + mc ≤ R.cells ∧ slots + ms ≤ R.slots) (hdg : decode cc pc = .ok (.invokestatic ix, 3))
    (kx : ∀ (E : String) (cx : Nat) (ce : Cell) (q9 : Addr) (σ1 : St) (H1 : Heap) (locs1 : List Loc) (la : Array Slot), Kx cx σ1 → E = eNm cx → va_P D vwCl (wsO X ad σ1) H1 → va_S (AA ad s.heap.size) s.heap H1 locs1 → lv_has la nL ls → H1[q9]? = some ce → ce.vm = .none → s.vm.findClass E = some ce.cls → vx_W p l e R s m args below meth c H1 locs1 (cells + mc) (slots + ms) Q (F0 m pc la rest) q9)
    (k : ∀ (r : UInt64) (σ1 : St), K r σ1 → GG p l e R s m args below meth c (cells + mc) (slots + ms) Q D X ad nL (pc + 3) ls (Value.double r :: rest) σ1) : GG p l e R s m args below meth c cells slots Q D X ad nL pc ls st σ := by
  intro H locs la hP hS hl
  subst hst
  have hA : ∀ q, q < H.size → AA ad H.size q → AA ad s.heap.size q := fun q _ h => AA_sub hS.1 h
  have hf1 : ∀ q, AA ad H.size q → AA ad s.heap.size q := fun q h => AA_sub hS.1 h
  exact vx_calld (vx_runS (As := As) (rest := rest) a.1 (hM H.size) cw ⟨wd_pc, fun U hU hW => ⟨rfl, wd_at a hP hS U hU hW⟩⟩ rfl hn hl.1 rfl (lv_room hcat) hdg hf) hS hA hf1 hA (fun E ce q9 u t H1 locs1 ht hvm hw hB hz hk hS1 h1 h2 h3 => kx E u.1 ce q9 u.2 H1 locs1 la hw hB.1 (by rw [← ht]; exact hB.2) hS1 hl h1 h2 h3) (fun r u t H1 locs1 ht hvm hw hB hz hk hS1 => by
    obtain ⟨rfl, hw⟩ := hw
    exact k u.1 u.2 hw H1 locs1 la (by rw [← ht]; exact hB) hS1 hl)
theorem a_csv (a : AM p l e s m args meth c own Ts cc nL D X ad) {y : MethodName} {bytes : ByteArray} {maxL n ix mc ms : Nat} {ret : Option FieldType} {ws : List Cond} {rm : Room} {As rest : List Value} {K : St → Prop}  (hM : ∀ sz : Nat, Met l y ws rm (va_Pc As (WD D X ad σ sz)) (QV D X ad sz K) mc ms (AA ad sz)) (cw : CallB R s args own ix y bytes maxL ret ws rm mc ms n ∧ (Cond.static y).before args s = true) (hn : As.length = n) (hst : st = As.reverse ++ rest) (hcat : (rest.map fun v => v.category).sum ≤ 8) (hf : cells + mc ≤ R.cells ∧ slots + ms ≤ R.slots) (hdg : decode cc pc = .ok (.invokestatic ix, 3))
    (k : ∀ (σ1 : St), K σ1 → GG p l e R s m args below meth c (cells + mc) (slots + ms) Q D X ad nL (pc + 3) ls (rest) σ1) : GG p l e R s m args below meth c cells slots Q D X ad nL pc ls st σ := by
  intro H locs la hP hS hl
  subst hst
  have hA : ∀ q, q < H.size → AA ad H.size q → AA ad s.heap.size q := fun q _ h => AA_sub hS.1 h
  have hf1 : ∀ q, AA ad H.size q → AA ad s.heap.size q := fun q h => AA_sub hS.1 h
  exact va_callv (va_runS (As := As) (rest := rest) a.1 (hM H.size) cw ⟨wd_pc, fun U hU hW => ⟨rfl, wd_at a hP hS U hU hW⟩⟩ rfl hn hl.1 rfl (lv_room hcat) hdg hf) hS hA hf1 (fun u t H1 locs1 ht hvm hw hB hz hk hS1 => k u hw H1 locs1 la (by rw [← ht]; exact hB) hS1 hl)
theorem a_xsv (a : AM p l e s m args meth c own Ts cc nL D X ad) {y : MethodName} {bytes : ByteArray} {maxL n ix mc ms : Nat} {ret : Option FieldType} {ws : List Cond} {rm : Room} {As rest : List Value} {K : St → Prop} {Kx : Nat → St → Prop}  (hM : ∀ sz : Nat, vx_Met l y ws rm (va_Pc As (WD D X ad σ sz)) (QV D X ad sz K) (XX D X ad sz Kx) mc ms (AA ad sz)) (cw : CallB R s args own ix y bytes maxL ret ws rm mc ms n ∧ (Cond.static y).before args s = true) (hn : As.length = n) (hst : st = As.reverse ++ rest) (hcat : (rest.map fun v => v.category).sum ≤ 8) (hf : cells + mc ≤ R.cells ∧ slots + ms ≤ R.slots) (hdg : decode cc pc = .ok (.invokestatic ix, 3))
    (kx : ∀ (E : String) (cx : Nat) (ce : Cell) (q9 : Addr) (σ1 : St) (H1 : Heap) (locs1 : List Loc) (la : Array Slot), Kx cx σ1 → E = eNm cx → va_P D vwCl (wsO X ad σ1) H1 → va_S (AA ad s.heap.size) s.heap H1 locs1 → lv_has la nL ls → H1[q9]? = some ce → ce.vm = .none → s.vm.findClass E = some ce.cls → vx_W p l e R s m args below meth c H1 locs1 (cells + mc) (slots + ms) Q (F0 m pc la rest) q9)
    (k : ∀ (σ1 : St), K σ1 → GG p l e R s m args below meth c (cells + mc) (slots + ms) Q D X ad nL (pc + 3) ls (rest) σ1) : GG p l e R s m args below meth c cells slots Q D X ad nL pc ls st σ := by
  intro H locs la hP hS hl
  subst hst
  have hA : ∀ q, q < H.size → AA ad H.size q → AA ad s.heap.size q := fun q _ h => AA_sub hS.1 h
  have hf1 : ∀ q, AA ad H.size q → AA ad s.heap.size q := fun q h => AA_sub hS.1 h
  exact vx_callv (vx_runS (As := As) (rest := rest) a.1 (hM H.size) cw ⟨wd_pc, fun U hU hW => ⟨rfl, wd_at a hP hS U hU hW⟩⟩ rfl hn hl.1 rfl (lv_room hcat) hdg hf) hS hA hf1 hA (fun E ce q9 u t H1 locs1 ht hvm hw hB hz hk hS1 h1 h2 h3 => kx E u.1 ce q9 u.2 H1 locs1 la hw hB.1 (by rw [← ht]; exact hB.2) hS1 hl h1 h2 h3) (fun u t H1 locs1 ht hvm hw hB hz hk hS1 => k u hw H1 locs1 la (by rw [← ht]; exact hB) hS1 hl)
theorem a_cwi (a : AM p l e s m args meth c own Ts cc nL D X ad) {y : MethodName} {bytes : ByteArray} {maxL n ix mc ms : Nat} {ret : Option FieldType} {ws : List Cond} {rm : Room} {As rest : List Value} {K : Int → St → Prop} {hh : List (Nat × Nat × Nat × Nat)} (hM : ∀ sz : Nat, Met l y ws rm (va_Pc As (WD D X ad σ sz)) (QI D X ad sz K) mc ms (AA ad sz)) (cw : vx_CSW R s args own ix y bytes maxL ret hh ws rm mc ms n) (hn : As.length = n) (hst : st = As.reverse ++ rest) (hcat : (rest.map fun v => v.category).sum ≤ 8) (hf : cells + mc ≤ R.cells ∧ slots + ms ≤ R.slots) (hdg : decode cc pc = .ok (.invokestatic ix, 3))
    (k : ∀ (r : Int) (σ1 : St), K r σ1 → GG p l e R s m args below meth c (cells + mc) (slots + ms) Q D X ad nL (pc + 3) ls (vI r :: rest) σ1) : GG p l e R s m args below meth c cells slots Q D X ad nL pc ls st σ := by
  intro H locs la hP hS hl
  subst hst
  have hA : ∀ q, q < H.size → AA ad H.size q → AA ad s.heap.size q := fun q _ h => AA_sub hS.1 h
  have hf1 : ∀ q, AA ad H.size q → AA ad s.heap.size q := fun q h => AA_sub hS.1 h
  exact va_calli (vx_runSW (As := As) (rest := rest) a.1 (hM H.size) cw ⟨wd_pc, fun U hU hW => ⟨rfl, wd_at a hP hS U hU hW⟩⟩ rfl hn hl.1 rfl (lv_room hcat) hdg hf) hS hA hf1 (fun r u t H1 locs1 ht hvm hw hB hz hk hS1 => by
    obtain ⟨rfl, hw⟩ := hw
    exact k u.1 u.2 hw H1 locs1 la (by rw [← ht]; exact hB) hS1 hl)
theorem x_catch (a : AM p l e s m args meth c own Ts cc nL D X ad) {rest : List Value} {E name : String} {ce : Cell} {q9 : Addr} {H1 : Heap} {locs1 : List Loc} {la : Array Slot} (pre : List ExceptionTableEntry) (x : ExceptionTableEntry) (suf : List ExceptionTableEntry) (hsplit : c.exceptionTable.toList = pre ++ x :: suf) (hpass : ∀ z ∈ pre, covers z pc = false ∨ (z.catchType ≠ 0 ∧ ∃ nm : String, (Cond.classLink own z.catchType nm).before args s = true ∧ va_Nc E nm s)) (hx : covers x pc = true) (h0 : x.catchType ≠ 0) (hlink : (Cond.classLink own x.catchType name).before args s = true) (hcast : (Cond.castable E name).before args s = true) (h1 : H1[q9]? = some ce) (h2 : ce.vm = .none) (h3 : s.vm.findClass E = some ce.cls) (hP : va_P D vwCl (wsO X ad σ) H1) (hS : va_S (AA ad s.heap.size) s.heap H1 locs1) (hl : lv_has la nL ls)
    (k : GG p l e R s m args below meth c cells slots Q D X ad nL x.handlerPc ls [Value.ref q9] σ) : vx_W p l e R s m args below meth c H1 locs1 cells slots Q (F0 m pc la rest) q9 :=
  vx_catch a.1.2.2.2.1 pre x suf hsplit hpass hx h0 hlink hcast h1 h2 h3 (k H1 locs1 la hP hS hl)
def WDS (D : va_G) (X : XI) (ad : Nat → Nat) (σ : St) (bb L : Nat) (xs : Nat → Int32) (sz : Nat) : State → Prop := fun U => WD D X ad σ sz U ∧ va_X bb L xs U U.heap ∧ bb < sz ∧ ¬ AA ad sz bb
theorem wds_pc {D : va_G} {X : XI} {ad : Nat → Nat} {σ : St} {bb L : Nat} {xs : Nat → Int32} {sz : Nat} {av : List Value} : FrameBlind (va_Pc av (WDS D X ad σ bb L xs sz)) := by
  rintro a U g mk ⟨h1, ⟨h2, h3, h4, h5⟩, h6, h7⟩
  exact ⟨h1, ⟨h2, h3, va_K.moved (u := U) (U := U.calling g mk a) (Vm.Alike.refl U.vm) h4, StF.go (U := U.calling g mk a) (State.WarmedH.refl U) h5 (fun _ _ _ => rfl) (fun _ h => h)⟩, va_X.moved (u := U) (U := U.calling g mk a) (Vm.Alike.refl U.vm) h6, h7⟩
theorem a_csS (a : AM p l e s m args meth c own Ts cc nL D X ad) {y : MethodName} {bytes : ByteArray} {maxL n ix mc ms : Nat} {ret : Option FieldType} {ws : List Cond} {rm : Room} {As rest : List Value} {K : Int → St → Prop} {bb L : Nat} {xs : Nat → Int32} (hX : va_X bb L xs s s.heap) (hbl : bb < s.heap.size) (hbA : ¬ AA ad s.heap.size bb) (hM : ∀ sz : Nat, Met l y ws rm (va_Pc As (WDS D X ad σ bb L xs sz)) (QI D X ad sz K) mc ms (AA ad sz)) (cw : CallB R s args own ix y bytes maxL ret ws rm mc ms n ∧ (Cond.static y).before args s = true) (hn : As.length = n) (hst : st = As.reverse ++ rest) (hcat : (rest.map fun v => v.category).sum ≤ 8) (hf : cells + mc ≤ R.cells ∧ slots + ms ≤ R.slots) (hdg : decode cc pc = .ok (.invokestatic ix, 3))
    (k : ∀ (r : Int) (σ1 : St), K r σ1 → GG p l e R s m args below meth c (cells + mc) (slots + ms) Q D X ad nL (pc + 3) ls (vI r :: rest) σ1) : GG p l e R s m args below meth c cells slots Q D X ad nL pc ls st σ := by
  intro H locs la hP hS hl
  subst hst
  have hA : ∀ q, q < H.size → AA ad H.size q → AA ad s.heap.size q := fun q _ h => AA_sub hS.1 h
  have hf1 : ∀ q, AA ad H.size q → AA ad s.heap.size q := fun q h => AA_sub hS.1 h
  exact va_calli (va_runS (As := As) (rest := rest) a.1 (hM H.size) cw ⟨wds_pc, fun U hU hW => ⟨rfl, wd_at a hP hS U hU hW, by rw [hU]; exact va_X.moved hW.alike (hX.kept (hS.2.1 bb hbl hbA)), Nat.lt_of_lt_of_le hbl hS.1, fun z => hbA (AA_sub hS.1 z)⟩⟩ rfl hn hl.1 rfl (lv_room hcat) hdg hf) hS hA hf1 (fun r u t H1 locs1 ht hvm hw hB hz hk hS1 => by
    obtain ⟨rfl, hw⟩ := hw
    exact k u.1 u.2 hw H1 locs1 la (by rw [← ht]; exact hB) hS1 hl)
end MACH
section MACHE
variable {p : Program} {l : Launch} {e : Env} {R : Room} {s : State} {m : MethodId} {args : Array Value} {below : List Frame} {meth : Method} {c : Code} {cells slots : Nat} {D : va_G} {X : XI} {ad : Nat → Nat} {nL pc : Nat} {ls : List (Nat × Value)} {σ : St} {own : String} {Ts : List Cond} {cc : ByteArray}
theorem st_free {ad : Nat → Nat} {s : State} {H : Heap} {locs : List Loc} (hS : va_S (AA ad s.heap.size) s.heap H locs) : ∀ q ∈ locs, AA ad s.heap.size q.base := fun q h => hS.2.2 q h
theorem e_i (a : AM p l e s m args meth c own Ts cc nL D X ad) {x : Int} {K : Int → St → Prop} (hr : meth.sig.returnType = some .int) (hdg : decode cc pc = .ok (.ireturn, 1)) (hk : K x σ) : GG p l e R s m args below meth c cells slots (MQ below (QI D X ad s.heap.size K) args s cells slots (AA ad s.heap.size)) D X ad nL pc ls [vI x] σ := by
  intro H locs la hP hS hl
  exact W.iret a.1.1 a.1.2.1 hr (fun t ht _ => ⟨⟨iI x, (x, σ), rfl, ⟨rfl, hk⟩, by show va_P D vwCl (wsO X ad σ) t.heap; rw [ht]; exact hP⟩, hS.F ht⟩) (st_free hS) hdg a.2.2.2.2.1
theorem eA_i (a : AM p l e s m args meth c own Ts cc nL D X ad) {x : Int} {K : Int → St → Prop} {ad0 : Nat → Nat} (hsub : ∀ (τ : St) (H : Heap), va_P D vwCl (wsO X ad τ) H → va_P D vwCl (wsO X ad0 τ) H) (hAA : AA ad s.heap.size = AA ad0 s.heap.size) (hr : meth.sig.returnType = some .int) (hdg : decode cc pc = .ok (.ireturn, 1)) (hk : K x σ) : GG p l e R s m args below meth c cells slots (MQ below (QI D X ad0 s.heap.size K) args s cells slots (AA ad0 s.heap.size)) D X ad nL pc ls [vI x] σ := by
  intro H locs la hP hS hl
  replace hP := hsub _ _ hP
  rw [hAA] at hS
  exact W.iret a.1.1 a.1.2.1 hr (fun t ht _ => ⟨⟨iI x, (x, σ), rfl, ⟨rfl, hk⟩, by show va_P D vwCl (wsO X ad0 σ) t.heap; rw [ht]; exact hP⟩, hS.F ht⟩) (st_free hS) hdg a.2.2.2.2.1
theorem ex_i (a : AM p l e s m args meth c own Ts cc nL D X ad) {x : Int} {K : Int → St → Prop} {XC : String → State → State → Prop} {mc ms : Nat} (hr : meth.sig.returnType = some .int) (hdg : decode cc pc = .ok (.ireturn, 1)) (hc : cells ≤ mc) (hs : slots ≤ ms) (hk : K x σ) : GG p l e R s m args below meth c cells slots (vx_MQ below (QI D X ad s.heap.size K) XC args s mc ms (AA ad s.heap.size)) D X ad nL pc ls [vI x] σ := by
  intro H locs la hP hS hl
  refine W.widen hc hs (vx_ret ?_)
  exact W.iret a.1.1 a.1.2.1 hr (fun t ht _ => ⟨⟨iI x, (x, σ), rfl, ⟨rfl, hk⟩, by show va_P D vwCl (wsO X ad σ) t.heap; rw [ht]; exact hP⟩, hS.F ht⟩) (st_free hS) hdg a.2.2.2.2.1
theorem e_z (a : AM p l e s m args meth c own Ts cc nL D X ad) {x : Int} {K : Int → St → Prop} (hr : meth.sig.returnType = some .boolean) (hbl : Bl x) (hdg : decode cc pc = .ok (.ireturn, 1)) (hk : K x σ) : GG p l e R s m args below meth c cells slots (MQ below (QI D X ad s.heap.size K) args s cells slots (AA ad s.heap.size)) D X ad nL pc ls [vI x] σ := by
  intro H locs la hP hS hl
  exact W.zret a.1.1 a.1.2.1 hr (bl_nar hbl) (fun t ht _ => ⟨⟨iI x, (x, σ), rfl, ⟨rfl, hk⟩, by show va_P D vwCl (wsO X ad σ) t.heap; rw [ht]; exact hP⟩, hS.F ht⟩) (st_free hS) hdg a.2.2.2.2.1
theorem eA_z (a : AM p l e s m args meth c own Ts cc nL D X ad) {x : Int} {K : Int → St → Prop} {ad0 : Nat → Nat} (hsub : ∀ (τ : St) (H : Heap), va_P D vwCl (wsO X ad τ) H → va_P D vwCl (wsO X ad0 τ) H) (hAA : AA ad s.heap.size = AA ad0 s.heap.size) (hr : meth.sig.returnType = some .boolean) (hbl : Bl x) (hdg : decode cc pc = .ok (.ireturn, 1)) (hk : K x σ) : GG p l e R s m args below meth c cells slots (MQ below (QI D X ad0 s.heap.size K) args s cells slots (AA ad0 s.heap.size)) D X ad nL pc ls [vI x] σ := by
  intro H locs la hP hS hl
  replace hP := hsub _ _ hP
  rw [hAA] at hS
  exact W.zret a.1.1 a.1.2.1 hr (bl_nar hbl) (fun t ht _ => ⟨⟨iI x, (x, σ), rfl, ⟨rfl, hk⟩, by show va_P D vwCl (wsO X ad0 σ) t.heap; rw [ht]; exact hP⟩, hS.F ht⟩) (st_free hS) hdg a.2.2.2.2.1
theorem ex_z (a : AM p l e s m args meth c own Ts cc nL D X ad) {x : Int} {K : Int → St → Prop} {XC : String → State → State → Prop} {mc ms : Nat} (hr : meth.sig.returnType = some .boolean) (hbl : Bl x) (hdg : decode cc pc = .ok (.ireturn, 1)) (hc : cells ≤ mc) (hs : slots ≤ ms) (hk : K x σ) : GG p l e R s m args below meth c cells slots (vx_MQ below (QI D X ad s.heap.size K) XC args s mc ms (AA ad s.heap.size)) D X ad nL pc ls [vI x] σ := by
  intro H locs la hP hS hl
  refine W.widen hc hs (vx_ret ?_)
  exact W.zret a.1.1 a.1.2.1 hr (bl_nar hbl) (fun t ht _ => ⟨⟨iI x, (x, σ), rfl, ⟨rfl, hk⟩, by show va_P D vwCl (wsO X ad σ) t.heap; rw [ht]; exact hP⟩, hS.F ht⟩) (st_free hS) hdg a.2.2.2.2.1
theorem e_j (a : AM p l e s m args meth c own Ts cc nL D X ad) {x : Int} {K : Int → St → Prop} (hr : meth.sig.returnType = some .long) (hdg : decode cc pc = .ok (.lreturn, 1)) (hk : K x σ) : GG p l e R s m args below meth c cells slots (MQ below (QJ D X ad s.heap.size K) args s cells slots (AA ad s.heap.size)) D X ad nL pc ls [vJ x] σ := by
  intro H locs la hP hS hl
  exact W.lret a.1.1 a.1.2.1 hr (fun t ht _ => ⟨⟨iJ x, (x, σ), rfl, ⟨rfl, hk⟩, by show va_P D vwCl (wsO X ad σ) t.heap; rw [ht]; exact hP⟩, hS.F ht⟩) (st_free hS) hdg a.2.2.2.2.1
theorem eA_j (a : AM p l e s m args meth c own Ts cc nL D X ad) {x : Int} {K : Int → St → Prop} {ad0 : Nat → Nat} (hsub : ∀ (τ : St) (H : Heap), va_P D vwCl (wsO X ad τ) H → va_P D vwCl (wsO X ad0 τ) H) (hAA : AA ad s.heap.size = AA ad0 s.heap.size) (hr : meth.sig.returnType = some .long) (hdg : decode cc pc = .ok (.lreturn, 1)) (hk : K x σ) : GG p l e R s m args below meth c cells slots (MQ below (QJ D X ad0 s.heap.size K) args s cells slots (AA ad0 s.heap.size)) D X ad nL pc ls [vJ x] σ := by
  intro H locs la hP hS hl
  replace hP := hsub _ _ hP
  rw [hAA] at hS
  exact W.lret a.1.1 a.1.2.1 hr (fun t ht _ => ⟨⟨iJ x, (x, σ), rfl, ⟨rfl, hk⟩, by show va_P D vwCl (wsO X ad0 σ) t.heap; rw [ht]; exact hP⟩, hS.F ht⟩) (st_free hS) hdg a.2.2.2.2.1
theorem ex_j (a : AM p l e s m args meth c own Ts cc nL D X ad) {x : Int} {K : Int → St → Prop} {XC : String → State → State → Prop} {mc ms : Nat} (hr : meth.sig.returnType = some .long) (hdg : decode cc pc = .ok (.lreturn, 1)) (hc : cells ≤ mc) (hs : slots ≤ ms) (hk : K x σ) : GG p l e R s m args below meth c cells slots (vx_MQ below (QJ D X ad s.heap.size K) XC args s mc ms (AA ad s.heap.size)) D X ad nL pc ls [vJ x] σ := by
  intro H locs la hP hS hl
  refine W.widen hc hs (vx_ret ?_)
  exact W.lret a.1.1 a.1.2.1 hr (fun t ht _ => ⟨⟨iJ x, (x, σ), rfl, ⟨rfl, hk⟩, by show va_P D vwCl (wsO X ad σ) t.heap; rw [ht]; exact hP⟩, hS.F ht⟩) (st_free hS) hdg a.2.2.2.2.1
theorem e_d (a : AM p l e s m args meth c own Ts cc nL D X ad) {x : UInt64} {K : UInt64 → St → Prop} (hr : meth.sig.returnType = some .double) (hdg : decode cc pc = .ok (.dreturn, 1)) (hk : K x σ) : GG p l e R s m args below meth c cells slots (MQ below (QD D X ad s.heap.size K) args s cells slots (AA ad s.heap.size)) D X ad nL pc ls [Value.double x] σ := by
  intro H locs la hP hS hl
  exact W.dret a.1.1 a.1.2.1 hr (fun t ht _ => ⟨⟨x, (x, σ), rfl, ⟨rfl, hk⟩, by show va_P D vwCl (wsO X ad σ) t.heap; rw [ht]; exact hP⟩, hS.F ht⟩) (st_free hS) hdg a.2.2.2.2.1
theorem eA_d (a : AM p l e s m args meth c own Ts cc nL D X ad) {x : UInt64} {K : UInt64 → St → Prop} {ad0 : Nat → Nat} (hsub : ∀ (τ : St) (H : Heap), va_P D vwCl (wsO X ad τ) H → va_P D vwCl (wsO X ad0 τ) H) (hAA : AA ad s.heap.size = AA ad0 s.heap.size) (hr : meth.sig.returnType = some .double) (hdg : decode cc pc = .ok (.dreturn, 1)) (hk : K x σ) : GG p l e R s m args below meth c cells slots (MQ below (QD D X ad0 s.heap.size K) args s cells slots (AA ad0 s.heap.size)) D X ad nL pc ls [Value.double x] σ := by
  intro H locs la hP hS hl
  replace hP := hsub _ _ hP
  rw [hAA] at hS
  exact W.dret a.1.1 a.1.2.1 hr (fun t ht _ => ⟨⟨x, (x, σ), rfl, ⟨rfl, hk⟩, by show va_P D vwCl (wsO X ad0 σ) t.heap; rw [ht]; exact hP⟩, hS.F ht⟩) (st_free hS) hdg a.2.2.2.2.1
theorem ex_d (a : AM p l e s m args meth c own Ts cc nL D X ad) {x : UInt64} {K : UInt64 → St → Prop} {XC : String → State → State → Prop} {mc ms : Nat} (hr : meth.sig.returnType = some .double) (hdg : decode cc pc = .ok (.dreturn, 1)) (hc : cells ≤ mc) (hs : slots ≤ ms) (hk : K x σ) : GG p l e R s m args below meth c cells slots (vx_MQ below (QD D X ad s.heap.size K) XC args s mc ms (AA ad s.heap.size)) D X ad nL pc ls [Value.double x] σ := by
  intro H locs la hP hS hl
  refine W.widen hc hs (vx_ret ?_)
  exact W.dret a.1.1 a.1.2.1 hr (fun t ht _ => ⟨⟨x, (x, σ), rfl, ⟨rfl, hk⟩, by show va_P D vwCl (wsO X ad σ) t.heap; rw [ht]; exact hP⟩, hS.F ht⟩) (st_free hS) hdg a.2.2.2.2.1
theorem e_v (a : AM p l e s m args meth c own Ts cc nL D X ad) {K : St → Prop} (hr : meth.sig.returnType = none) (hdg : decode cc pc = .ok (.return_, 1)) (hk : K σ) : GG p l e R s m args below meth c cells slots (MQ below (QV D X ad s.heap.size K) args s cells slots (AA ad s.heap.size)) D X ad nL pc ls [] σ := by
  intro H locs la hP hS hl
  exact W.vret a.1.1 a.1.2.1 hr (fun t ht _ => ⟨⟨σ, rfl, hk, by show va_P D vwCl (wsO X ad σ) t.heap; rw [ht]; exact hP⟩, hS.F ht⟩) (st_free hS) hdg a.2.2.2.2.1
theorem eA_v (a : AM p l e s m args meth c own Ts cc nL D X ad) {K : St → Prop} {ad0 : Nat → Nat} (hsub : ∀ (τ : St) (H : Heap), va_P D vwCl (wsO X ad τ) H → va_P D vwCl (wsO X ad0 τ) H) (hAA : AA ad s.heap.size = AA ad0 s.heap.size) (hr : meth.sig.returnType = none) (hdg : decode cc pc = .ok (.return_, 1)) (hk : K σ) : GG p l e R s m args below meth c cells slots (MQ below (QV D X ad0 s.heap.size K) args s cells slots (AA ad0 s.heap.size)) D X ad nL pc ls [] σ := by
  intro H locs la hP hS hl
  replace hP := hsub _ _ hP
  rw [hAA] at hS
  exact W.vret a.1.1 a.1.2.1 hr (fun t ht _ => ⟨⟨σ, rfl, hk, by show va_P D vwCl (wsO X ad0 σ) t.heap; rw [ht]; exact hP⟩, hS.F ht⟩) (st_free hS) hdg a.2.2.2.2.1
theorem ex_v (a : AM p l e s m args meth c own Ts cc nL D X ad) {K : St → Prop} {XC : String → State → State → Prop} {mc ms : Nat} (hr : meth.sig.returnType = none) (hdg : decode cc pc = .ok (.return_, 1)) (hc : cells ≤ mc) (hs : slots ≤ ms) (hk : K σ) : GG p l e R s m args below meth c cells slots (vx_MQ below (QV D X ad s.heap.size K) XC args s mc ms (AA ad s.heap.size)) D X ad nL pc ls [] σ := by
  intro H locs la hP hS hl
  refine W.widen hc hs (vx_ret ?_)
  exact W.vret a.1.1 a.1.2.1 hr (fun t ht _ => ⟨⟨σ, rfl, hk, by show va_P D vwCl (wsO X ad σ) t.heap; rw [ht]; exact hP⟩, hS.F ht⟩) (st_free hS) hdg a.2.2.2.2.1
theorem x_pass (a : AM p l e s m args meth c own Ts cc nL D X ad) {Qc : Array Value → State → Outcome → State → Prop} {Kx : Nat → St → Prop} {mc ms : Nat} (hno : ∀ x ∈ c.exceptionTable.toList, False) (hc : cells ≤ mc) (hs : slots ≤ ms) {rest : List Value} {E : String} {cx : Nat} {ce : Cell} {q9 : Addr} {σ1 : St} {H1 : Heap} {locs1 : List Loc} {la : Array Slot} (hk : Kx cx σ1) (hE : E = eNm cx) (hP : va_P D vwCl (wsO X ad σ1) H1) (hS : va_S (AA ad s.heap.size) s.heap H1 locs1) (h1 : H1[q9]? = some ce) (h2 : ce.vm = .none) (h3 : s.vm.findClass E = some ce.cls) :
    vx_W p l e R s m args below meth c H1 locs1 cells slots (vx_MQ below Qc (XX D X ad s.heap.size Kx) args s mc ms (AA ad s.heap.size)) (F0 m pc la rest) q9 :=
  vx_out (fun x hx => (hno x hx).elim) a.2.2.2.2.1 h1 h2 h3 (fun t ht _ => ⟨(cx, σ1), hk, ⟨hE, by show va_P D vwCl (wsO X ad σ1) t.heap; rw [ht]; exact hP⟩, hS.F ht⟩) (st_free hS) hc hs
theorem x_throw (a : AM p l e s m args meth c own Ts cc nL D X ad) {Qc : Array Value → State → Outcome → State → Prop} {Kx : Nat → St → Prop} {mc ms : Nat} {st : List Value} {ik is ic cx : Nat} {cls text : String} {names : List String} (hno : ∀ x ∈ c.exceptionTable.toList, False) (hq : (is, text) ∈ strs) (hsl : own = "SightLegend") (hE : cls = eNm cx) (hcls : Bundle.fit cls = true) (hnames : ∀ n ∈ names, Bundle.fit n = true)
    (hk : (Cond.classLink own ik cls).before args s = true) (hini : (Cond.initialized cls).before args s = true) (hat : ∀ w ∈ vx_atS own ic cls names, w.before args s = true) (hgood : ∀ w ∈ Cond.classLink own ik cls :: Cond.initialized cls :: vx_atS own ic cls names, vx_ot w = true)
    (d0 : decode cc pc = .ok (.new ik, 3)) (d3 : decode cc (pc + 3) = .ok (.dup, 1)) (d4 : decode cc (pc + 4) = .ok (.ldc is, 2)) (d6 : decode cc (pc + 6) = .ok (.invokespecial ic, 3)) (d9 : decode cc (pc + 9) = .ok (.athrow, 1))
    (hRf : names.length + 3 < R.frames) (hRl : (st.map fun v => v.category).sum + (13 * (names.length + 1) + 43) ≤ R.locals) (hRc : cells + 1 ≤ R.cells) (hRs : slots + 6 ≤ R.slots) (hc : cells + 1 ≤ mc) (hs : slots + 6 ≤ ms) (hkx : Kx cx σ) :
    GG p l e R s m args below meth c cells slots (vx_MQ below Qc (XX D X ad s.heap.size Kx) args s mc ms (AA ad s.heap.size)) D X ad nL pc ls st σ := by
  intro H locs la hP hS hl
  obtain ⟨hU, hN, -, hstr, -⟩ := a.2.2.2.1
  obtain ⟨sa, hsa⟩ := hstr _ hq
  subst hsl
  refine vx_throwS a.1.1 a.1.2.1 a.2.2.2.2.2 a.1.2.2.2.1 hcls hnames hk hini hsa hat hgood hU hN hS (hl.1.trans a.1.2.2.1.symm) d0 d3 d4 d6 d9 (fun x hx => (hno x hx).elim) hRf hRl hRc hRs a.2.2.2.2.1 (fun t _ hsz hsame => ⟨(cx, σ), hkx, ⟨hE, ?_⟩, ?_⟩) (st_free hS) hc hs
  · exact hP.kept (fun k q hk => hsame _ (hP k q hk).lt)
  · exact ⟨Nat.le_trans hS.1 hsz, fun q h1 h2 => (hsame q (Nat.lt_of_lt_of_le h1 hS.1)).trans (hS.2.1 q h1 h2)⟩
theorem x_throwW (a : AM p l e s m args meth c own Ts cc nL D X ad) {Qc : Array Value → State → Outcome → State → Prop} {Kx : Nat → St → Prop} {mc ms : Nat} {st : List Value} {ik is ic cx : Nat} {cls text : String} {names : List String} (hno : ∀ x ∈ c.exceptionTable.toList, False) (hq : (is, text) ∈ strs) (hsl : own = "SightLegend") (hE : cls = eNm cx) (hcls : Bundle.fit cls = true) (hnames : ∀ n ∈ names, Bundle.fit n = true)
    (hk : (Cond.classLink own ik cls).before args s = true) (hini : (Cond.initialized cls).before args s = true) (hat : ∀ w ∈ vx_atS own ic cls names, w.before args s = true) (hgood : ∀ w ∈ Cond.classLink own ik cls :: Cond.initialized cls :: vx_atS own ic cls names, vx_ot w = true)
    (d0 : decode cc pc = .ok (.new ik, 3)) (d3 : decode cc (pc + 3) = .ok (.dup, 1)) (d4 : decode cc (pc + 4) = .ok (.ldc_w is, 3)) (d6 : decode cc (pc + 7) = .ok (.invokespecial ic, 3)) (d9 : decode cc (pc + 10) = .ok (.athrow, 1))
    (hRf : names.length + 3 < R.frames) (hRl : (st.map fun v => v.category).sum + (13 * (names.length + 1) + 43) ≤ R.locals) (hRc : cells + 1 ≤ R.cells) (hRs : slots + 6 ≤ R.slots) (hc : cells + 1 ≤ mc) (hs : slots + 6 ≤ ms) (hkx : Kx cx σ) :
    GG p l e R s m args below meth c cells slots (vx_MQ below Qc (XX D X ad s.heap.size Kx) args s mc ms (AA ad s.heap.size)) D X ad nL pc ls st σ := by
  intro H locs la hP hS hl
  obtain ⟨hU, hN, -, hstr, -⟩ := a.2.2.2.1
  obtain ⟨sa, hsa⟩ := hstr _ hq
  subst hsl
  refine vx_throwSW a.1.1 a.1.2.1 a.2.2.2.2.2 a.1.2.2.2.1 hcls hnames hk hini hsa hat hgood hU hN hS (hl.1.trans a.1.2.2.1.symm) d0 d3 d4 d6 d9 (fun x hx => (hno x hx).elim) hRf hRl hRc hRs a.2.2.2.2.1 (fun t _ hsz hsame => ⟨(cx, σ), hkx, ⟨hE, ?_⟩, ?_⟩) (st_free hS) hc hs
  · exact hP.kept (fun k q hk => hsame _ (hP k q hk).lt)
  · exact ⟨Nat.le_trans hS.1 hsz, fun q h1 h2 => (hsame q (Nat.lt_of_lt_of_le h1 hS.1)).trans (hS.2.1 q h1 h2)⟩
end MACHE
section MACHS
variable {l : Launch} {D : va_G} {X : XI} {ad : Nat → Nat} {sz : Nat} {σ : St}
theorem a_start {y : MethodName} {ws ws1 : List Cond} {rm : Room} {cc : ByteArray} {maxL : Nat} {ret : Option FieldType} {Qc : Array Value → State → Outcome → State → Prop} {own : String} (As : List Value) (hy : plainName y.cls = true) (hyo : y.cls = own) (hw : ws = Cond.code y cc maxL ret :: ws1) (hlen : (lg_sl As).length ≤ maxL) (hinj : adI ad) (hl0 : l.stackTraces = false)
    (body : ∀ (p : Program) (e : Env) (s : State) (m : MethodId) (below : List Frame) (meth : Method) (c : Code), AM p l e s m As.toArray meth c own ws cc maxL D X ad → meth.sig.returnType = ret → s.heap.size = sz → GG p l e (headSpec ws rm).room s m As.toArray below meth c 0 0 (MQ below Qc As.toArray s 0 0 (AA ad sz)) D X ad maxL 0 (lv_args 0 As) [] σ) : Met l y ws rm (va_Pc As (WD D X ad σ sz)) Qc 0 0 (AA ad sz) := by
  refine Met.ofW hy hw ?_
  intro p e s m args below meth c s₁ B hml hv
  obtain ⟨rfl, hsz, hP, hK, hF⟩ := hv
  have hown : s.vm.findClass own = some m.cls := hyo ▸ findClass_of_methodNamed B.named
  have h := body p e s m below meth c ⟨⟨B.exec, B.bytes, hml, hown, atoms_spec (ws := ws) B.pre⟩, hK, hinj, by rw [hsz]; exact hF, B.notSynchronized, hl0⟩ B.returns hsz
  rw [lg_entry_eq]
  exact h s.heap [] _ hP va_S.rf (lv_entry As hlen)
theorem aM_start {y : MethodName} {ws ws1 : List Cond} {rm : Room} {cc : ByteArray} {maxL mc ms : Nat} {ret : Option FieldType} {Qc : Array Value → State → Outcome → State → Prop} {own : String} (As : List Value) (hy : plainName y.cls = true) (hyo : y.cls = own) (hw : ws = Cond.code y cc maxL ret :: ws1) (hlen : (lg_sl As).length ≤ maxL) (hinj : adI ad) (hl0 : l.stackTraces = false)
    (body : ∀ (p : Program) (e : Env) (s : State) (m : MethodId) (below : List Frame) (meth : Method) (c : Code), AM p l e s m As.toArray meth c own ws cc maxL D X ad → meth.sig.returnType = ret → s.heap.size = sz → GG p l e (headSpec ws rm).room s m As.toArray below meth c 0 0 (MQ below Qc As.toArray s mc ms (AA ad sz)) D X ad maxL 0 (lv_args 0 As) [] σ) : Met l y ws rm (va_Pc As (WD D X ad σ sz)) Qc mc ms (AA ad sz) := by
  refine Met.ofW hy hw ?_
  intro p e s m args below meth c s₁ B hml hv
  obtain ⟨rfl, hsz, hP, hK, hF⟩ := hv
  have hown : s.vm.findClass own = some m.cls := hyo ▸ findClass_of_methodNamed B.named
  have h := body p e s m below meth c ⟨⟨B.exec, B.bytes, hml, hown, atoms_spec (ws := ws) B.pre⟩, hK, hinj, by rw [hsz]; exact hF, B.notSynchronized, hl0⟩ B.returns hsz
  rw [lg_entry_eq]
  exact h s.heap [] _ hP va_S.rf (lv_entry As hlen)
theorem aS_start {y : MethodName} {ws ws1 : List Cond} {rm : Room} {cc : ByteArray} {maxL mc ms : Nat} {ret : Option FieldType} {Qc : Array Value → State → Outcome → State → Prop} {own : String} {bb L : Nat} {xs : Nat → Int32} (As : List Value) (hy : plainName y.cls = true) (hyo : y.cls = own) (hw : ws = Cond.code y cc maxL ret :: ws1) (hlen : (lg_sl As).length ≤ maxL) (hinj : adI ad) (hl0 : l.stackTraces = false)
    (body : ∀ (p : Program) (e : Env) (s : State) (m : MethodId) (below : List Frame) (meth : Method) (c : Code), AM p l e s m As.toArray meth c own ws cc maxL D X ad → meth.sig.returnType = ret → s.heap.size = sz → va_X bb L xs s s.heap → bb < s.heap.size → ¬ AA ad s.heap.size bb → GG p l e (headSpec ws rm).room s m As.toArray below meth c 0 0 (MQ below Qc As.toArray s mc ms (AA ad sz)) D X ad maxL 0 (lv_args 0 As) [] σ) : Met l y ws rm (va_Pc As (WDS D X ad σ bb L xs sz)) Qc mc ms (AA ad sz) := by
  refine Met.ofW hy hw ?_
  intro p e s m args below meth c s₁ B hml hv
  obtain ⟨rfl, ⟨hsz, hP, hK, hF⟩, hX, hbl, hbA⟩ := hv
  have hown : s.vm.findClass own = some m.cls := hyo ▸ findClass_of_methodNamed B.named
  have h := body p e s m below meth c ⟨⟨B.exec, B.bytes, hml, hown, atoms_spec (ws := ws) B.pre⟩, hK, hinj, by rw [hsz]; exact hF, B.notSynchronized, hl0⟩ B.returns hsz hX (by rw [hsz]; exact hbl) (by rw [hsz]; exact hbA)
  rw [lg_entry_eq]
  exact h s.heap [] _ hP va_S.rf (lv_entry As hlen)
theorem ax_start {y : MethodName} {ws ws1 : List Cond} {rm : Room} {cc : ByteArray} {maxL mc ms : Nat} {ret : Option FieldType} {Qc : Array Value → State → Outcome → State → Prop} {XC : String → State → State → Prop} {own : String} (As : List Value) (hy : plainName y.cls = true) (hyo : y.cls = own) (hw : ws = Cond.code y cc maxL ret :: ws1) (hlen : (lg_sl As).length ≤ maxL) (hinj : adI ad) (hl0 : l.stackTraces = false)
    (body : ∀ (p : Program) (e : Env) (s : State) (m : MethodId) (below : List Frame) (meth : Method) (c : Code), AM p l e s m As.toArray meth c own ws cc maxL D X ad → meth.sig.returnType = ret → (∀ x ∈ c.exceptionTable.toList, False) → s.heap.size = sz → GG p l e (headSpec ws rm).room s m As.toArray below meth c 0 0 (vx_MQ below Qc XC As.toArray s mc ms (AA ad sz)) D X ad maxL 0 (lv_args 0 As) [] σ) : vx_Met l y ws rm (va_Pc As (WD D X ad σ sz)) Qc XC mc ms (AA ad sz) := by
  refine vx_ofW hy hw ?_
  intro p e s m args below meth c s₁ B hml hno hv
  obtain ⟨rfl, hsz, hP, hK, hF⟩ := hv
  have hown : s.vm.findClass own = some m.cls := hyo ▸ findClass_of_methodNamed B.named
  have h := body p e s m below meth c ⟨⟨B.exec, B.bytes, hml, hown, atoms_spec (ws := ws) B.pre⟩, hK, hinj, by rw [hsz]; exact hF, B.notSynchronized, hl0⟩ B.returns hno hsz
  rw [lg_entry_eq]
  exact h s.heap [] _ hP va_S.rf (lv_entry As hlen)
theorem aw_start {y : MethodName} {ws ws1 : List Cond} {rm : Room} {cc : ByteArray} {maxL mc ms : Nat} {ret : Option FieldType} {hh : List (Nat × Nat × Nat × Nat)} {Qc : Array Value → State → Outcome → State → Prop} {own : String} (As : List Value) (hy : plainName y.cls = true) (hyo : y.cls = own) (hw : ws = Cond.codeWith y cc maxL ret hh :: ws1) (hlen : (lg_sl As).length ≤ maxL) (hinj : adI ad) (hl0 : l.stackTraces = false)
    (body : ∀ (p : Program) (e : Env) (s : State) (m : MethodId) (below : List Frame) (meth : Method) (c : Code), AM p l e s m As.toArray meth c own ws cc maxL D X ad → meth.sig.returnType = ret → c.exceptionTable.toList = tableOf hh → s.heap.size = sz → GG p l e (headSpec ws rm).room s m As.toArray below meth c 0 0 (MQ below Qc As.toArray s mc ms (AA ad sz)) D X ad maxL 0 (lv_args 0 As) [] σ) : Met l y ws rm (va_Pc As (WD D X ad σ sz)) Qc mc ms (AA ad sz) := by
  refine va_MetW hy hw ?_
  intro p e s m args below meth c s₁ B hml hv
  obtain ⟨rfl, hsz, hP, hK, hF⟩ := hv
  have hown : s.vm.findClass own = some m.cls := hyo ▸ findClass_of_methodNamed B.named
  have htab : c.exceptionTable.toList = tableOf hh := vx_table (x := y) B (atoms_spec (ws := ws) B.pre _ (by rw [hw]; exact List.mem_cons_self))
  have h := body p e s m below meth c ⟨⟨B.exec, B.bytes, hml, hown, atoms_spec (ws := ws) B.pre⟩, hK, hinj, by rw [hsz]; exact hF, B.notSynchronized, hl0⟩ B.returns htab hsz
  rw [lg_entry_eq]
  exact h s.heap [] _ hP va_S.rf (lv_entry As hlen)
end MACHS
