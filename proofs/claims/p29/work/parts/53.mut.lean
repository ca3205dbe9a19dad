/-! ===== class and reference side by side ===== -/
theorem Ms.cong {σ : St} {b : Nat} {s t : Rw} (hd : Dm s) (h : Ms σ b s) (e : ∀ i : Int, 0 ≤ i → i < 311 → t i = s i) : Ms σ b t := by
  have hn := hd.n
  unfold Ms
  rw [e 9 (by decide) (by decide)]
  refine ⟨h.n, fun k k0 k1 => ?_, fun k k0 k1 => ?_, fun g g0 g1 => ?_, fun j j0 j1 => ?_, fun j j0 j1 => ?_⟩
  · have e1 : kd t k = kd s k := e _ (by omega) (by omega)
    have e2 : co t k = co s k := e _ (by omega) (by omega)
    have e3 : ro t k = ro s k := e _ (by omega) (by omega)
    have e4 : va t k = va s k := e _ (by omega) (by omega)
    have e5 : le' t k = le' s k := e _ (by omega) (by omega)
    rw [e1, e2, e3, e4, e5]
    exact h.sign k k0 k1
  · have hk := hd.kind k k0 k1
    have e1 : rk t k = rk s k := e _ (by omega) (by omega)
    have e2 : gp t k = gp s k := e _ (by omega) (by omega)
    have e3 : nl t k = nl s k := e _ (by omega) (by omega)
    have m := h.kind k k0 k1
    rw [e1, e2, e3]
    refine ⟨m.1, m.2.1, m.2.2.1, fun i i0 i1 => ?_⟩
    have e4 : lm t k i = lm s k i := e _ (by omega) (by omega)
    rw [e4]; exact m.2.2.2 i i0 i1
  · rw [e _ (by omega) (by omega)]; exact h.way g g0 g1
  · rw [e _ (by omega) (by omega)]; exact h.win j j0 j1
  · rw [e _ (by omega) (by omega)]; exact h.set j j0 j1
def slot (o j : Int) : Nat := 109 + 13 * ((o + j) % 4).toNat
/-- the saved states of the class, oldest first -/
def RI (σ : St) (p : Int) (P : Int → Rw) : Prop := (0 ≤ σ 0 6 ∧ σ 0 6 ≤ 3) ∧ σ 0 7 = p ∧ (0 ≤ p ∧ p ≤ 4) ∧ ∀ j : Int, 0 ≤ j → j < p → Dm (P j) ∧ Ms σ (slot (σ 0 6) j) (P j)
theorem slotB {o j : Int} (h0 : 0 ≤ o) (h1 : 0 ≤ j) : 109 ≤ slot o j ∧ slot o j + 12 ≤ 160 := by unfold slot; omega
theorem slotN {o j i : Int} (h0 : 0 ≤ o) (h1 : 0 ≤ j) (h2 : j < i) (h3 : i < j + 4) : slot o j + 12 < slot o i ∨ slot o i + 12 < slot o j := by unfold slot; omega
theorem RI.go {σ τ : St} {p : Int} {P : Int → Rw} (h : RI σ p P) (e6 : τ 0 6 = σ 0 6) (e7 : τ 0 7 = σ 0 7) (e : ∀ c : Nat, 109 ≤ c → c ≤ 160 → τ c = σ c) : RI τ p P := by
  obtain ⟨h1, h2, h3, h4⟩ := h
  refine ⟨by rw [e6]; exact h1, e7.trans h2, h3, fun j j0 j1 => ⟨(h4 j j0 j1).1, ?_⟩⟩
  have hb := slotB h1.1 j0
  rw [e6]
  exact (h4 j j0 j1).2.go fun c g1 g2 => e c (by omega) (by omega)
theorem ok_ne {A B : Prop} (h : A) : Rg 1 ∧ ((1 : Int) ≠ 0 → A) ∧ (¬ (1 : Int) ≠ 0 → B) := ⟨⟨by decide, by decide⟩, fun _ => h, fun z => absurd (by decide) z⟩
theorem no_ne {A B : Prop} (h : B) : Rg 0 ∧ ((0 : Int) ≠ 0 → A) ∧ (¬ (0 : Int) ≠ 0 → B) := ⟨⟨by decide, by decide⟩, fun z => absurd rfl z, fun _ => h⟩
theorem ok_eq {A B : Prop} (h : A) : Rg 1 ∧ ((1 : Int) = 0 → B) ∧ (¬ (1 : Int) = 0 → A) := ⟨⟨by decide, by decide⟩, fun z => absurd z (by decide), fun _ => h⟩
theorem no_eq {A B : Prop} (h : B) : Rg 0 ∧ ((0 : Int) = 0 → B) ∧ (¬ (0 : Int) = 0 → A) := ⟨⟨by decide, by decide⟩, fun _ => h, fun z => absurd rfl z⟩
theorem s6_demandKind {p : Int} {σ : St} {K : Prop} {X : Nat → Prop} (hp : Rg p) (h : 0 ≤ p ∧ p < 12 → K) (g : ¬ (0 ≤ p ∧ p < 12) → X 1) : f_X6_demandKind p σ K X := ⟨hp, fun z => g (by omega), fun _ => ⟨hp, fun z => h (by omega), fun z => g (by omega)⟩⟩
theorem s6_demandBelow {p n : Int} {σ : St} {K : Prop} {X : Nat → Prop} (hp : Rg p) (hn : Rg n) (h : 0 ≤ p ∧ p < n → K) (g : ¬ (0 ≤ p ∧ p < n) → X 2) : f_X6_demandBelow p n σ K X := ⟨hp, fun z => g (by omega), fun _ => ⟨hp, hn, fun z => h (by omega), fun z => g (by omega)⟩⟩
theorem s6_demandSpan {p : Int} {σ : St} {K : Prop} {X : Nat → Prop} (hp : Rg p) (h : 10 ≤ p ∧ p ≤ 200 → K) (g : ¬ (10 ≤ p ∧ p ≤ 200) → X 2) : f_X6_demandSpan p σ K X := ⟨hp, fun z => g (by omega), fun _ => ⟨hp, fun z => h (by omega), fun z => g (by omega)⟩⟩
theorem s6_demandSign {p : Int} {s : Rw} {σ : St} {K : Prop} {X : Nat → Prop} (hd : Dm s) (hm : Ms σ 1 s) (hp : Rg p) (h : 0 ≤ p ∧ p < s 9 → K) (g : ¬ (0 ≤ p ∧ p < s 9) → X 1) : f_X6_demandSign p σ K X := by
  have hn := hd.n
  unfold f_X6_demandSign
  rw [hm.n]
  exact ⟨hp, fun z => g (by omega), fun _ => ⟨hp, ⟨by omega, by omega⟩, fun z => h (by omega), fun z => g (by omega)⟩⟩
/-! ===== saving a state ===== -/
def pushN (p : Int) : Int := if p = 4 then 4 else p + 1
def pushP (p : Int) (P : Int → Rw) (s : Rw) : Int → Rw := if p = 4 then fun j => if j = 3 then s else P (j + 1) else fun j => if j = p then s else P j
theorem s6_saveState {p : Int} {P : Int → Rw} {s : Rw} {σ : St} {K : St → Prop} (hd : Dm s) (hm : Ms σ 1 s) (hr : RI σ p P)
    (h : ∀ σ' : St, (∀ c : Nat, c ≠ 0 → c ≠ 14 → (c < 109 ∨ 160 < c) → σ' c = σ c) → (∀ f : Int, f ≠ 0 → σ' 14 f = σ 14 f) → σ' 14 0 = 0 → RI σ' (pushN p) (pushP p P s) → K σ') : f_X6_saveState σ K := by
  obtain ⟨h1, h2, h3, h4⟩ := hr
  unfold f_X6_saveState
  rw [h2]
  refine wj0s_intro (fun τ => ∃ (n : Int) (Q : Int → Rw), (∀ c : Nat, c ≠ 0 → τ c = σ c) ∧ (0 ≤ n ∧ n ≤ 3) ∧ RI τ n Q ∧ n + 1 = pushN p ∧ (∀ j : Int, 0 ≤ j → j < n → Q j = pushP p P s j) ∧ pushP p P s n = s) (fun τ => ?_) (fun J hJ => ⟨⟨by omega, by omega⟩, fun q => hJ _ ⟨p, P, fun _ _ => rfl, by omega, ⟨h1, h2, h3, h4⟩, ?_, fun j j0 j1 => ?_, ?_⟩, fun q => ⟨⟨by omega, by omega⟩, ?_⟩⟩)
  · rintro ⟨n, Q, hc, hn, ⟨t1, t2, t3, t4⟩, en, eQ, es⟩
    rw [t2]
    refine ⟨⟨by omega, by omega⟩, ⟨by omega, by omega⟩, ?_⟩
    intro r5 e5
    have er : r5 = slot (τ 0 6) n := e5
    have hb := slotB t1.1 hn.1
    rw [← er] at hb
    refine s3_copyFrom (by omega) fun σ6 hcf => ?_
    obtain ⟨g1, g2, g3⟩ := hcf
    intro s7 e7 s8 e8
    have a7 : σ6 0 7 = n := by rw [g1 0 (by omega)]; exact t2
    have k8 : ∀ c : Nat, c ≠ 0 → c ≠ 14 → (c < r5 ∨ r5 + 12 < c) → s8 c = σ c := fun c z1 z2 z3 => by rw [e8, up_c z2, e7, up_c z1, g1 c z3, hc c z1]
    have k06 : s8 0 6 = τ 0 6 := by rw [e8, up_c (by decide), e7, up_i (by decide), g1 0 (by omega)]
    refine h _ (fun c z1 z2 z3 => k8 c z1 z2 (by omega)) (fun f z => ?_) (by rw [e8, up_s]) ⟨by rw [k06]; exact t1, ?_, by rw [← en]; omega, fun j j0 j1 => ?_⟩
    · rw [e8, up_i z, e7, up_c (by decide), g1 14 (by omega), hc 14 (by decide)]
    · rw [e8, up_c (by decide), e7, up_s, a7]; exact en
    · rw [k06]
      rw [← en] at j1
      by_cases q : j = n
      · subst q
        rw [es, ← er]
        refine ⟨hd, (g3 s hd (hm.go fun c z1 z2 => hc c (by omega))).go fun c z1 z2 => by rw [e8, up_c (by omega), e7, up_c (by omega)]⟩
      · have ht := t4 j j0 (by omega)
        rw [← eQ j j0 (by omega)]
        have hsn := slotN t1.1 j0 (by omega : j < n) (by omega)
        have hsb := slotB t1.1 j0
        rw [← er] at hsn
        exact ⟨ht.1, ht.2.go fun c z1 z2 => by rw [e8, up_c (by omega), e7, up_c (by omega), g1 c (by omega)]⟩
  · unfold pushN; rw [if_neg q]
  · unfold pushP; rw [if_neg q, if_neg (by omega)]
  · unfold pushP; rw [if_neg q, if_pos rfl]
  · have q : p = 4 := Decidable.not_not.mp q
    intro s2 e2 s3 e3
    have a6 : s3 0 6 = (σ 0 6 + 1) % 4 := by rw [e3, up_i (by decide), e2, up_s]
    refine hJ _ ⟨3, fun j => P (j + 1), fun c z => by rw [e3, up_c z, e2, up_c z], by decide, ⟨by rw [a6]; omega, ?_, by decide, fun j j0 j1 => ?_⟩, ?_, fun j j0 j1 => ?_, ?_⟩
    · rw [e3, up_s, e2, up_i (by decide), h2, q]; rfl
    · have ht := h4 (j + 1) (by omega) (by omega)
      have es : slot (s3 0 6) j = slot (σ 0 6) (j + 1) := by rw [a6]; unfold slot; omega
      rw [es]
      have hsb := slotB h1.1 (by omega : 0 ≤ j + 1)
      exact ⟨ht.1, ht.2.go fun c z1 z2 => by rw [e3, up_c (by omega), e2, up_c (by omega)]⟩
    · unfold pushN; rw [if_pos q]; rfl
    · unfold pushP; rw [if_pos q, if_neg (by omega)]
    · unfold pushP; rw [if_pos q, if_pos rfl]
/-! ===== rows with a place changed ===== -/
theorem up_row {σ : St} {c : Nat} {i v : Int} : up2 σ c i v c = setF (σ c) i v := by funext j; simp [up2, setF]
theorem setF_if {f : Fn} {i v j : Int} : setF f i v j = if j = i then v else f j := rfl
theorem setF_self {f : Fn} {i : Int} : setF f i (f i) = f := by
  funext j
  rw [setF_if]
  split
  · rename_i e; rw [e]
  · rfl
theorem setF_twice {f : Fn} {i v w : Int} : setF (setF f i v) i w = setF f i w := by
  funext j
  show (if j = i then w else setF f i v j) = (if j = i then w else f j)
  split
  · rfl
  · rename_i e; rw [setF_n e]
theorem Dm.low {s : Rw} (hd : Dm s) {i v : Int} (hi : 0 ≤ i ∧ i ≤ 8) (h0 : i = 0 → 1 ≤ v ∧ v ≤ 6) (h1 : i = 1 → 1 ≤ v ∧ v ≤ 4) (h2 : i = 2 → 1 ≤ v ∧ v ≤ 60) (h3 : i = 3 → 1 ≤ v ∧ v ≤ 20) (h4 : i = 4 ∨ i = 5 → 0 ≤ v ∧ v ≤ 199) (h6 : i = 6 ∨ i = 7 → 10 ≤ v ∧ v ≤ 200) (h8 : i = 8 → 0 ≤ v ∧ v ≤ 5) : Dm (setF s i v) := by
  have a1 := hd.set
  have a2 := hd.win
  have a3 := hd.n
  unfold Dm
  refine ⟨?_, ?_, ?_, ?_, ?_, ?_, ?_, ?_, ?_, ?_, fun g g0 g1 => ?_, fun k k0 k1 => ?_, fun k k0 k1 => ?_⟩
  · rw [setF_if]; split <;> omega
  · rw [setF_if]; split <;> omega
  · rw [setF_if]; split <;> omega
  · rw [setF_if]; split <;> omega
  · rw [setF_if]; split <;> omega
  · rw [setF_if]; split <;> omega
  · rw [setF_if]; split <;> omega
  · rw [setF_if]; split <;> omega
  · rw [setF_if]; split <;> omega
  · rw [setF_n (by omega)]; exact a3
  · rw [setF_n (by omega)]; exact hd.way g g0 g1
  · have hk := hd.kind k k0 k1
    have e1 : rk (setF s i v) k = rk s k := setF_n (by omega)
    have e2 : gp (setF s i v) k = gp s k := setF_n (by omega)
    have e3 : nl (setF s i v) k = nl s k := setF_n (by omega)
    rw [e1, e2, e3]
    refine ⟨hk.1, hk.2.1, hk.2.2.1, fun j j0 j1 => ?_, fun j j0 j1 => ?_⟩
    · have e4 : lm (setF s i v) k j = lm s k j := setF_n (by omega)
      rw [e4]; exact hk.2.2.2.1 j j0 j1
    · have e4 : lm (setF s i v) k j = lm s k j := setF_n (by omega)
      have e5 : lm (setF s i v) k (j + 1) = lm s k (j + 1) := setF_n (by omega)
      rw [e4, e5]; exact hk.2.2.2.2 j j0 j1
  · rw [setF_n (by omega)] at k1
    have hs := hd.sign k k0 k1
    have e1 : kd (setF s i v) k = kd s k := setF_n (by omega)
    have e2 : co (setF s i v) k = co s k := setF_n (by omega)
    have e3 : ro (setF s i v) k = ro s k := setF_n (by omega)
    have e4 : va (setF s i v) k = va s k := setF_n (by omega)
    have e5 : le' (setF s i v) k = le' s k := setF_n (by omega)
    rw [e1, e2, e3, e4, e5]; exact hs
theorem Ms.chg {σ τ : St} {b : Nat} {s t : Rw} (h : Ms σ b s) (e9 : t 9 = s 9) (es : ∀ i : Int, 111 ≤ i → t i = s i) (ec : ∀ c : Nat, b ≤ c → c ≤ b + 5 → τ c = σ c)
    (hk : ∀ k : Int, 0 ≤ k → k < 12 → τ (b + 6) k = rk t k ∧ τ (b + 7) k = gp t k ∧ τ (b + 8) k = nl t k ∧ ∀ i : Int, 0 ≤ i → i < nl t k → τ (b + 9) (k * 5 + i) = lm t k i)
    (hg : ∀ g : Int, 0 ≤ g → g < 5 → τ (b + 10) g = t (10 + g)) (hw : ∀ j : Int, 0 ≤ j → j < 5 → τ (b + 11) j = t (4 + j)) (hs : ∀ j : Int, 0 ≤ j → j < 4 → τ (b + 12) j = t j) : Ms τ b t := by
  have g := (h.sg.go ec)
  refine ⟨by rw [e9]; exact g.1, fun k k0 k1 => ?_, hk, hg, hw, hs⟩
  rw [e9] at k1
  have e1 : kd t k = kd s k := es _ (by omega)
  have e2 : co t k = co s k := es _ (by omega)
  have e3 : ro t k = ro s k := es _ (by omega)
  have e4 : va t k = va s k := es _ (by omega)
  have e5 : le' t k = le' s k := es _ (by omega)
  rw [e1, e2, e3, e4, e5]
  exact g.2 k k0 k1
theorem Ms.setW {σ : St} {b : Nat} {s : Rw} {j v : Int} (hd : Dm s) (h : Ms σ b s) (hj : 0 ≤ j ∧ j < 5) : Ms (up2 σ (b + 11) j v) b (setF s (4 + j) v) := by
  refine h.chg (setF_n (by omega)) (fun i hi => setF_n (by omega)) (fun c g1 g2 => up_c (by omega)) (fun k k0 k1 => ?_) (fun g g0 g1 => ?_) (fun i i0 i1 => ?_) (fun i i0 i1 => ?_)
  · have hk := hd.kind k k0 k1
    have e1 : rk (setF s (4 + j) v) k = rk s k := setF_n (by omega)
    have e2 : gp (setF s (4 + j) v) k = gp s k := setF_n (by omega)
    have e3 : nl (setF s (4 + j) v) k = nl s k := setF_n (by omega)
    have m := h.kind k k0 k1
    rw [e1, e2, e3, up_c (by omega), up_c (by omega), up_c (by omega), up_c (by omega)]
    refine ⟨m.1, m.2.1, m.2.2.1, fun i i0 i1 => ?_⟩
    have e4 : lm (setF s (4 + j) v) k i = lm s k i := setF_n (by omega)
    rw [e4]; exact m.2.2.2 i i0 i1
  · rw [up_c (by omega), setF_n (by omega)]; exact h.way g g0 g1
  · rw [up_if, setF_if]
    by_cases q : i = j
    · rw [if_pos q, if_pos (by omega)]
    · rw [if_neg q, if_neg (by omega)]; exact h.win i i0 i1
  · rw [up_c (by omega), setF_n (by omega)]; exact h.set i i0 i1
theorem Ms.setS {σ : St} {b : Nat} {s : Rw} {j v : Int} (hd : Dm s) (h : Ms σ b s) (hj : 0 ≤ j ∧ j < 4) : Ms (up2 σ (b + 12) j v) b (setF s j v) := by
  refine h.chg (setF_n (by omega)) (fun i hi => setF_n (by omega)) (fun c g1 g2 => up_c (by omega)) (fun k k0 k1 => ?_) (fun g g0 g1 => ?_) (fun i i0 i1 => ?_) (fun i i0 i1 => ?_)
  · have hk := hd.kind k k0 k1
    have e1 : rk (setF s j v) k = rk s k := setF_n (by omega)
    have e2 : gp (setF s j v) k = gp s k := setF_n (by omega)
    have e3 : nl (setF s j v) k = nl s k := setF_n (by omega)
    have m := h.kind k k0 k1
    rw [e1, e2, e3, up_c (by omega), up_c (by omega), up_c (by omega), up_c (by omega)]
    refine ⟨m.1, m.2.1, m.2.2.1, fun i i0 i1 => ?_⟩
    have e4 : lm (setF s j v) k i = lm s k i := setF_n (by omega)
    rw [e4]; exact m.2.2.2 i i0 i1
  · rw [up_c (by omega), setF_n (by omega)]; exact h.way g g0 g1
  · rw [up_c (by omega), setF_n (by omega)]; exact h.win i i0 i1
  · rw [up_if, setF_if]
    by_cases q : i = j
    · rw [if_pos q, if_pos q]
    · rw [if_neg q, if_neg q]; exact h.set i i0 i1
/-! the best number of columns -/
def bco (s : Rw) : Nat → Int × Int
  | 0 => (0, -1)
  | n + 1 => if (bco s n).2 < cI (vF (setF s 1 ((n : Int) + 1))) 40 then ((n : Int) + 1, cI (vF (setF s 1 ((n : Int) + 1))) 40) else bco s n
theorem Dm.col {s : Rw} (hd : Dm s) {c : Int} (hc : 1 ≤ c ∧ c ≤ 4) : Dm (setF s 1 c) := hd.low (by decide) (fun z => absurd z (by decide)) (fun _ => hc) (fun z => absurd z (by decide)) (fun z => absurd z (by decide)) (fun z => absurd z (by decide)) (fun z => absurd z (by decide)) (fun z => absurd z (by decide))
theorem bco_bd (s : Rw) : ∀ n : Nat, n ≤ 4 → (0 ≤ (bco s n).1 ∧ (bco s n).1 ≤ 4) ∧ (-1 ≤ (bco s n).2 ∧ (bco s n).2 ≤ 40)
  | 0, _ => ⟨(by decide : (0 : Int) ≤ 0 ∧ (0 : Int) ≤ 4), (by decide : (-1 : Int) ≤ -1 ∧ (-1 : Int) ≤ 40)⟩
  | n + 1, h => by
    have ih := bco_bd s n (by omega)
    have hc := cI_bd (vF (setF s 1 ((n : Int) + 1))) (i := 40) (by decide)
    unfold bco
    split
    · exact ⟨⟨by show (0 : Int) ≤ (n : Int) + 1; omega, by show (n : Int) + 1 ≤ 4; omega⟩, ⟨by show (-1 : Int) ≤ cI _ 40; omega, by show cI _ 40 ≤ (40 : Int); omega⟩⟩
    · exact ih
/-! a sign less -/
/-! ===== changes ===== -/
theorem putS_lo {s : Rw} {a b c d e : Int} (h0 : 0 ≤ s 9) {i : Int} (h1 : i < 111) (h9 : i ≠ 9) : putS s a b c d e i = s i := by
  unfold putS
  rw [if_neg h9, if_neg (by omega), if_neg (by omega), if_neg (by omega), if_neg (by omega), if_neg (by omega)]
/-! a sign moved -/
theorem Dm.mv {s : Rw} (hd : Dm s) {p c r : Int} (hp : 0 ≤ p ∧ p < s 9) (hc : 0 ≤ c ∧ c ≤ 199) (hr : 0 ≤ r ∧ r ≤ 199) : Dm (setF (setF s (111 + 5 * p + 1) c) (111 + 5 * p + 2) r) := by
  have eq : ∀ i : Int, i < 111 → setF (setF s (111 + 5 * p + 1) c) (111 + 5 * p + 2) r i = s i := fun i hi => by rw [setF_n (by omega), setF_n (by omega)]
  generalize ht : setF (setF s (111 + 5 * p + 1) c) (111 + 5 * p + 2) r = t at *
  have n0 := hd.n
  unfold Dm
  simp only [eq 0 (by decide), eq 1 (by decide), eq 2 (by decide), eq 3 (by decide), eq 4 (by decide), eq 5 (by decide), eq 6 (by decide), eq 7 (by decide), eq 8 (by decide), eq 9 (by decide)]
  refine ⟨hd.set.1, hd.set.2.1, hd.set.2.2.1, hd.set.2.2.2, hd.win.1, hd.win.2.1, hd.win.2.2.1, hd.win.2.2.2.1, hd.win.2.2.2.2, n0, fun g g0 g1 => ?_, fun k k0 k1 => ?_, fun k k0 k1 => ?_⟩
  · rw [eq _ (by omega)]; exact hd.way g g0 g1
  · have hk := hd.kind k k0 k1
    have e1 : rk t k = rk s k := eq _ (by omega)
    have e2 : gp t k = gp s k := eq _ (by omega)
    have e3 : nl t k = nl s k := eq _ (by omega)
    rw [e1, e2, e3]
    refine ⟨hk.1, hk.2.1, hk.2.2.1, fun i i0 i1 => ?_, fun i i0 i1 => ?_⟩
    · have e4 : lm t k i = lm s k i := eq _ (by omega)
      rw [e4]; exact hk.2.2.2.1 i i0 i1
    · have e4 : lm t k i = lm s k i := eq _ (by omega)
      have e5 : lm t k (i + 1) = lm s k (i + 1) := eq _ (by omega)
      rw [e4, e5]; exact hk.2.2.2.2 i i0 i1
  · have hs := hd.sign k k0 k1
    have e1 : kd t k = kd s k := by rw [← ht]; unfold kd; rw [setF_n (by omega), setF_n (by omega)]
    have e2 : co t k = if k = p then c else co s k := by
      rw [← ht]
      unfold co
      rw [setF_n (by omega), setF_if]
      by_cases q : k = p
      · rw [if_pos (by omega), if_pos q]
      · rw [if_neg (by omega), if_neg q]
    have e3 : ro t k = if k = p then r else ro s k := by
      rw [← ht]
      unfold ro
      rw [setF_if]
      by_cases q : k = p
      · rw [if_pos (by omega), if_pos q]
      · rw [if_neg (by omega), if_neg q, setF_n (by omega)]
    have e4 : va t k = va s k := by rw [← ht]; unfold va; rw [setF_n (by omega), setF_n (by omega)]
    have e5 : le' t k = le' s k := by rw [← ht]; unfold le'; rw [setF_n (by omega), setF_n (by omega)]
    rw [e1, e2, e3, e4, e5]
    refine ⟨hs.1, ?_, ?_, hs.2.2.2.1, hs.2.2.2.2⟩
    · split <;> omega
    · split <;> omega
theorem Ms.mv {σ : St} {b : Nat} {s : Rw} {p c r : Int} (hd : Dm s) (h : Ms σ b s) (hp : 0 ≤ p ∧ p < s 9) : Ms (up2 (up2 σ (b + 2) p c) (b + 3) p r) b (setF (setF s (111 + 5 * p + 1) c) (111 + 5 * p + 2) r) := by
  have eq : ∀ i : Int, i < 111 → setF (setF s (111 + 5 * p + 1) c) (111 + 5 * p + 2) r i = s i := fun i hi => by rw [setF_n (by omega), setF_n (by omega)]
  refine Sg.ms hd h ⟨?_, fun k k0 k1 => ⟨?_, ?_, ?_, ?_, ?_⟩⟩ (fun c g1 g2 => by rw [up_c (by omega), up_c (by omega)]) (fun i i0 i1 _ => eq i i1)
  · rw [up_c (by omega), up_c (by omega), eq 9 (by decide)]; exact h.n
  all_goals rw [eq 9 (by decide)] at k1
  all_goals have hs := h.sign k k0 k1
  · rw [up_c (by omega), up_c (by omega), hs.1]
    unfold kd
    rw [setF_n (by omega), setF_n (by omega)]
  · rw [up_c (by omega), up_if]
    unfold co
    rw [setF_n (by omega), setF_if]
    by_cases q : k = p
    · rw [if_pos q, if_pos (by omega)]
    · rw [if_neg q, if_neg (by omega)]; exact hs.2.1
  · rw [up_if]
    unfold ro
    rw [setF_if]
    by_cases q : k = p
    · rw [if_pos q, if_pos (by omega)]
    · rw [if_neg q, if_neg (by omega), up_c (by omega), setF_n (by omega)]; exact hs.2.2.1
  · rw [up_c (by omega), up_c (by omega), hs.2.2.2.1]
    unfold va
    rw [setF_n (by omega), setF_n (by omega)]
  · rw [up_c (by omega), up_c (by omega), hs.2.2.2.2]
    unfold le'
    rw [setF_n (by omega), setF_n (by omega)]
/-! ===== limits ===== -/
theorem lm_mono {s : Rw} (hd : Dm s) {k : Int} (k0 : 0 ≤ k) (k1 : k < 12) : ∀ (m : Nat) (i : Int), 0 ≤ i → i + m + 1 < nl s k → lm s k i < lm s k (i + m + 1)
  | 0, i, i0, i1 => by
    rw [show i + ((0 : Nat) : Int) + 1 = i + 1 by omega] at i1 ⊢
    exact (hd.kind k k0 k1).2.2.2.2 i i0 i1
  | m + 1, i, i0, i1 => by
    have h1 := lm_mono hd k0 k1 m i i0 (by omega)
    have h2 := (hd.kind k k0 k1).2.2.2.2 (i + m + 1) (by omega) (by omega)
    rw [show i + ((m + 1 : Nat) : Int) + 1 = i + m + 1 + 1 by omega]
    omega
theorem lm_lt {s : Rw} (hd : Dm s) {k : Int} (k0 : 0 ≤ k) (k1 : k < 12) {i j : Int} (i0 : 0 ≤ i) (ij : i < j) (j1 : j < nl s k) : lm s k i < lm s k j := by
  have := lm_mono hd k0 k1 (j - i - 1).toNat i i0 (by omega)
  rw [show i + (((j - i - 1).toNat : Nat) : Int) + 1 = j by omega] at this
  exact this
/-- where a limit stands, or would stand -/
def PLC (s : Rw) (k l q : Int) : Prop := (0 ≤ q ∧ q ≤ nl s k) ∧ (∀ i : Int, 0 ≤ i → i < q → lm s k i < l) ∧ (q < nl s k → l ≤ lm s k q)
theorem plc_ex {s : Rw} (hd : Dm s) {k l : Int} (k0 : 0 ≤ k) (k1 : k < 12) : ∃ q, PLC s k l q := by
  have hk := (hd.kind k k0 k1).2.2.1
  have key : ∀ m : Nat, (m : Int) ≤ nl s k → (∃ q, PLC s k l q) ∨ ∀ i : Int, 0 ≤ i → i < m → lm s k i < l := by
    intro m
    induction m with
    | zero => intro _; exact Or.inr fun i i0 i1 => by omega
    | succ m ih =>
      intro hm
      rcases ih (by omega) with h | h
      · exact Or.inl h
      · by_cases q : lm s k m < l
        · refine Or.inr fun i i0 i1 => ?_
          by_cases e : i = m
          · rw [e]; exact q
          · exact h i i0 (by omega)
        · exact Or.inl ⟨m, ⟨by omega, by omega⟩, h, fun _ => by omega⟩
  rcases key (nl s k).toNat (by omega) with h | h
  · exact h
  · exact ⟨nl s k, ⟨by omega, by omega⟩, fun i i0 i1 => h i i0 (by omega), fun z => by omega⟩
theorem plc_has {s : Rw} (hd : Dm s) {k l q : Int} (k0 : 0 ≤ k) (k1 : k < 12) (h : PLC s k l q) : hasL s k l = true ↔ q < nl s k ∧ lm s k q = l := by
  rw [hasL_iff hd k0 k1]
  constructor
  · rintro ⟨i, i0, i1, e⟩
    have a : q ≤ i := by
      refine Int.not_lt.mp fun z => ?_
      have := h.2.1 i i0 z
      omega
    by_cases e2 : i = q
    · rw [← e2]; exact ⟨i1, e⟩
    · have h2 := lm_lt hd k0 k1 h.1.1 (by omega : q < i) i1
      have := h.2.2 (by omega)
      omega
  · rintro ⟨a, e⟩; exact ⟨q, h.1.1, a, e⟩
def limN (s : Rw) (k l : Int) : Int := if hasL s k l = true then nl s k - 1 else nl s k + 1
def limL (s : Rw) (k l q i : Int) : Int := if hasL s k l = true then (if i < q then lm s k i else lm s k (i + 1)) else if i < q then lm s k i else if i = q then l else lm s k (i - 1)
def limT (s : Rw) (k l q : Int) : Rw := fun i => if i = 15 + 8 * k + 2 then limN s k l else if 15 + 8 * k + 3 ≤ i ∧ i < 15 + 8 * k + 3 + limN s k l then limL s k l q (i - (15 + 8 * k + 3)) else s i
theorem limN_bd {s : Rw} (hd : Dm s) {k l q : Int} (k0 : 0 ≤ k) (k1 : k < 12) (h : PLC s k l q) (h5 : hasL s k l = true ∨ nl s k < 5) : 0 ≤ limN s k l ∧ limN s k l ≤ 5 := by
  have hk := (hd.kind k k0 k1).2.2.1
  unfold limN
  split
  · rename_i z
    have := (plc_has hd k0 k1 h).mp z
    have := h.1
    omega
  · rename_i z
    rcases h5 with e | e
    · exact absurd e z
    · omega
theorem limT_o {s : Rw} {k l q i : Int} (h0 : 0 ≤ limN s k l ∧ limN s k l ≤ 5) (h : i < 15 + 8 * k + 2 ∨ 15 + 8 * k + 7 < i) : limT s k l q i = s i := by
  unfold limT
  rw [if_neg (by omega), if_neg (by omega)]
theorem limT_n {s : Rw} {k l q : Int} : nl (limT s k l q) k = limN s k l := by
  unfold nl limT
  rw [if_pos rfl]
theorem limT_l {s : Rw} {k l q i : Int} (i0 : 0 ≤ i) (i1 : i < limN s k l) : lm (limT s k l q) k i = limL s k l q i := by
  unfold lm limT
  rw [if_neg (by omega), if_pos (by omega), show 15 + 8 * k + 3 + i - (15 + 8 * k + 3) = i by omega]
theorem limL_ok {s : Rw} (hd : Dm s) {k l q : Int} (k0 : 0 ≤ k) (k1 : k < 12) (hl : 1 ≤ l ∧ l ≤ 9999) (h : PLC s k l q) : (∀ i : Int, 0 ≤ i → i < limN s k l → 1 ≤ limL s k l q i ∧ limL s k l q i ≤ 9999) ∧ ∀ i : Int, 0 ≤ i → i + 1 < limN s k l → limL s k l q i < limL s k l q (i + 1) := by
  have hk := (hd.kind k k0 k1).2.2
  obtain ⟨⟨q0, q1⟩, hlo, hhi⟩ := h
  unfold limN limL
  by_cases z : hasL s k l = true
  · rw [if_pos z]
    simp only [if_pos z]
    refine ⟨fun i i0 i1 => ?_, fun i i0 i1 => ?_⟩
    · split
      · exact hk.2.1 i i0 (by omega)
      · exact hk.2.1 (i + 1) (by omega) (by omega)
    · by_cases c : i + 1 < q
      · rw [if_pos c, if_pos (by omega)]; exact lm_lt hd k0 k1 i0 (by omega) (by omega)
      · rw [if_neg c]
        split
        · exact lm_lt hd k0 k1 i0 (by omega) (by omega)
        · exact lm_lt hd k0 k1 (by omega) (by omega) (by omega)
  · have hp := plc_has hd k0 k1 (⟨⟨q0, q1⟩, hlo, hhi⟩ : PLC s k l q)
    have hq : q < nl s k → l < lm s k q := fun y => by
      have a := hhi y
      by_cases e : lm s k q = l
      · exact absurd (hp.mpr ⟨y, e⟩) z
      · omega
    rw [if_neg z]
    simp only [if_neg z]
    refine ⟨fun i i0 i1 => ?_, fun i i0 i1 => ?_⟩
    · split
      · exact hk.2.1 i i0 (by omega)
      · split
        · exact hl
        · exact hk.2.1 (i - 1) (by omega) (by omega)
    · by_cases c : i + 1 < q
      · rw [if_pos c, if_pos (by omega)]; exact lm_lt hd k0 k1 i0 (by omega) (by omega)
      · rw [if_neg c]
        by_cases c2 : i + 1 = q
        · rw [if_pos c2, if_pos (by omega)]; exact hlo i i0 (by omega)
        · rw [if_neg c2, if_neg (by omega)]
          by_cases c3 : i = q
          · rw [if_pos c3, show i + 1 - 1 = q by omega]; exact hq (by omega)
          · rw [if_neg c3, show i + 1 - 1 = i by omega]; exact lm_lt hd k0 k1 (by omega) (by omega) (by omega)
theorem Dm.lim {s : Rw} (hd : Dm s) {k l q : Int} (k0 : 0 ≤ k) (k1 : k < 12) (hl : 1 ≤ l ∧ l ≤ 9999) (h : PLC s k l q) (h5 : hasL s k l = true ∨ nl s k < 5) : Dm (limT s k l q) := by
  have hN := limN_bd hd k0 k1 h h5
  have hL := limL_ok hd k0 k1 hl h
  have eq : ∀ i : Int, i < 15 + 8 * k + 2 ∨ 15 + 8 * k + 7 < i → limT s k l q i = s i := fun i hi => limT_o hN hi
  have n0 := hd.n
  unfold Dm
  simp only [eq 0 (by omega), eq 1 (by omega), eq 2 (by omega), eq 3 (by omega), eq 4 (by omega), eq 5 (by omega), eq 6 (by omega), eq 7 (by omega), eq 8 (by omega), eq 9 (by omega)]
  refine ⟨hd.set.1, hd.set.2.1, hd.set.2.2.1, hd.set.2.2.2, hd.win.1, hd.win.2.1, hd.win.2.2.1, hd.win.2.2.2.1, hd.win.2.2.2.2, n0, fun g g0 g1 => ?_, fun j j0 j1 => ?_, fun j j0 j1 => ?_⟩
  · rw [eq _ (by omega)]; exact hd.way g g0 g1
  · have hk := hd.kind j j0 j1
    have e1 : rk (limT s k l q) j = rk s j := eq _ (by omega)
    have e2 : gp (limT s k l q) j = gp s j := eq _ (by omega)
    rw [e1, e2]
    by_cases e : j = k
    · subst e
      rw [limT_n]
      refine ⟨hk.1, hk.2.1, hN, fun i i0 i1 => ?_, fun i i0 i1 => ?_⟩
      · rw [limT_l i0 i1]; exact hL.1 i i0 i1
      · rw [limT_l i0 (by omega), limT_l (by omega) i1]; exact hL.2 i i0 i1
    · have e3 : nl (limT s k l q) j = nl s j := eq _ (by omega)
      rw [e3]
      refine ⟨hk.1, hk.2.1, hk.2.2.1, fun i i0 i1 => ?_, fun i i0 i1 => ?_⟩
      · have e4 : lm (limT s k l q) j i = lm s j i := eq _ (by omega)
        rw [e4]; exact hk.2.2.2.1 i i0 i1
      · have e4 : lm (limT s k l q) j i = lm s j i := eq _ (by omega)
        have e5 : lm (limT s k l q) j (i + 1) = lm s j (i + 1) := eq _ (by omega)
        rw [e4, e5]; exact hk.2.2.2.2 i i0 i1
  · have hs := hd.sign j j0 j1
    have e1 : kd (limT s k l q) j = kd s j := eq _ (by omega)
    have e2 : co (limT s k l q) j = co s j := eq _ (by omega)
    have e3 : ro (limT s k l q) j = ro s j := eq _ (by omega)
    have e4 : va (limT s k l q) j = va s j := eq _ (by omega)
    have e5 : le' (limT s k l q) j = le' s j := eq _ (by omega)
    rw [e1, e2, e3, e4, e5]; exact hs
theorem Ms.lim {σ τ : St} {b : Nat} {s : Rw} {k l q : Int} (hd : Dm s) (hm : Ms σ b s) (k0 : 0 ≤ k) (k1 : k < 12) (h : PLC s k l q) (h5 : hasL s k l = true ∨ nl s k < 5) (hc : ∀ c : Nat, c ≠ b + 8 → c ≠ b + 9 → τ c = σ c) (hn : ∀ j : Int, τ (b + 8) j = if j = k then limN s k l else σ (b + 8) j) (hl : ∀ i : Int, 0 ≤ i → i < limN s k l → τ (b + 9) (k * 5 + i) = limL s k l q i) (ho : ∀ i : Int, i < k * 5 ∨ k * 5 + 5 ≤ i → τ (b + 9) i = σ (b + 9) i) : Ms τ b (limT s k l q) := by
  have hN := limN_bd hd k0 k1 h h5
  have eq : ∀ i : Int, i < 15 + 8 * k + 2 ∨ 15 + 8 * k + 7 < i → limT s k l q i = s i := fun i hi => limT_o hN hi
  refine hm.chg (eq 9 (by omega)) (fun i hi => eq i (by omega)) (fun c g1 g2 => hc c (by omega) (by omega)) (fun j j0 j1 => ?_) (fun g g0 g1 => ?_) (fun j j0 j1 => ?_) (fun j j0 j1 => ?_)
  · have m := hm.kind j j0 j1
    have hk := (hd.kind j j0 j1).2.2.1
    have e1 : rk (limT s k l q) j = rk s j := eq _ (by omega)
    have e2 : gp (limT s k l q) j = gp s j := eq _ (by omega)
    rw [e1, e2, hc _ (by omega) (by omega), hc _ (by omega) (by omega), hn j]
    by_cases e : j = k
    · subst e
      rw [limT_n, if_pos rfl]
      exact ⟨m.1, m.2.1, rfl, fun i i0 i1 => by rw [limT_l i0 i1]; exact hl i i0 i1⟩
    · have e3 : nl (limT s k l q) j = nl s j := eq _ (by omega)
      rw [e3, if_neg e]
      refine ⟨m.1, m.2.1, m.2.2.1, fun i i0 i1 => ?_⟩
      have e4 : lm (limT s k l q) j i = lm s j i := eq _ (by omega)
      rw [e4, ho _ (by omega)]; exact m.2.2.2 i i0 i1
  · rw [hc _ (by omega) (by omega), eq _ (by omega)]; exact hm.way g g0 g1
  · rw [hc _ (by omega) (by omega), eq _ (by omega)]; exact hm.win j j0 j1
  · rw [hc _ (by omega) (by omega), eq _ (by omega)]; exact hm.set j j0 j1
theorem s3_putLimit {b : Nat} {s : Rw} {k l q : Int} {σ : St} {K : St → Prop} (hd : Dm s) (hm : Ms σ b s) (k0 : 0 ≤ k) (k1 : k < 12) (rl : Rg l) (hp : PLC s k l q) (hno : hasL s k l = false) (h5 : nl s k < 5)
    (h : ∀ σ' : St, (∀ c : Nat, c ≠ b + 8 → c ≠ b + 9 → σ' c = σ c) → Ms σ' b (limT s k l q) → K σ') : f_X3_putLimit b k l σ K := by
  have hk := (hd.kind k k0 k1).2.2
  have mk := hm.kind k k0 k1
  have hN : limN s k l = nl s k + 1 := by unfold limN; rw [hno]; rfl
  have hp' := plc_has hd k0 k1 hp
  have hq : q < nl s k → l < lm s k q := fun y => by
    have a := hp.2.2 y
    by_cases e : lm s k q = l
    · rw [hp'.mpr ⟨y, e⟩] at hno; exact absurd hno (by decide)
    · omega
  unfold f_X3_putLimit
  rw [mk.2.2.1]
  refine ⟨⟨k0, k1⟩, ⟨by omega, by omega⟩, fun _ => ?_, fun z => by omega⟩
  intro x1 e1
  subst e1
  refine ⟨⟨k0, k1⟩, ?_⟩
  intro x2 e2
  subst e2
  refine wl1s_inv (fun x τ => (k * 5 + q ≤ x ∧ x ≤ k * 5 + nl s k) ∧ (∀ c : Nat, c ≠ b + 9 → τ c = σ c) ∧ (∀ i : Int, i < k * 5 ∨ k * 5 + 5 ≤ i → τ (b + 9) i = σ (b + 9) i) ∧ (∀ i : Int, 0 ≤ i → k * 5 + i < x → τ (b + 9) (k * 5 + i) = lm s k i) ∧ ∀ i : Int, x < k * 5 + i → i < nl s k + 1 → τ (b + 9) (k * 5 + i) = lm s k (i - 1)) (fun x _ => (x - k * 5).toNat) ?_ ⟨by have := hp.1; omega, fun _ _ => rfl, fun _ _ => rfl, fun i i0 i1 => mk.2.2.2 i i0 (by omega), fun i i0 i1 => by omega⟩
  rintro x τ ag ⟨hx, hc, ho, hlo, hhi⟩ hag
  have hq0 := hp.1
  refine wj0_intro (x = k * 5 + q) (fun ex => ⟨by omega, ?_⟩) (fun J hJ => ⟨⟨by omega, by omega⟩, ⟨by omega, by omega⟩, fun z => hJ (by omega), fun z => ⟨by omega, ?_⟩⟩)
  · subst ex
    intro s7 e7
    refine ⟨⟨k0, k1⟩, ⟨k0, k1⟩, ?_⟩
    intro s8 e8
    have e9 : s7 (b + 8) k = nl s k := by rw [e7, up_c (by omega), hc _ (by omega)]; exact mk.2.2.1
    rw [e9] at e8
    refine h _ (fun c g1 g2 => by rw [e8, up_c g1, e7, up_c g2]; exact hc c g2) (hm.lim hd k0 k1 hp (Or.inr h5) (fun c g1 g2 => by rw [e8, up_c g1, e7, up_c g2]; exact hc c g2) (fun j => ?_) (fun i i0 i1 => ?_) (fun i hi => ?_))
    · rw [e8, up_if, hN, e7, up_c (by omega), hc _ (by omega)]
    · rw [hN] at i1
      rw [e8, up_c (by omega), e7]
      unfold limL
      rw [if_neg (by rw [hno]; decide)]
      by_cases c1 : i < q
      · rw [if_pos c1, up_i (by omega)]; exact hlo i i0 (by omega)
      · rw [if_neg c1]
        by_cases c2 : i = q
        · rw [if_pos c2, c2, up_s]
        · rw [if_neg c2, up_i (by omega)]; exact hhi i (by omega) i1
    · rw [e8, up_c (by omega), e7, up_i (by omega)]; exact ho i hi
  · have ei : τ (b + 9) (x - 1) = lm s k (x - 1 - k * 5) := by
      have := hlo (x - 1 - k * 5) (by omega) (by omega)
      rw [show k * 5 + (x - 1 - k * 5) = x - 1 by omega] at this
      exact this
    have hb := hk.2.1 (x - 1 - k * 5) (by omega) (by omega)
    rw [ei]
    refine ⟨⟨by omega, by omega⟩, rl, fun z2 => hJ ?_, fun z2 => ⟨by omega, by omega, ?_⟩⟩
    · refine Classical.byContradiction fun z3 => ?_
      have a1 := hq (by omega)
      by_cases e : x - 1 - k * 5 = q
      · rw [e] at z2; omega
      · have := lm_lt hd k0 k1 hq0.1 (by omega : q < x - 1 - k * 5) (by omega)
        omega
    · intro s6 e6
      refine hag _ _ ⟨?_, fun c g => by rw [e6, up_c g]; exact hc c g, fun i hi => by rw [e6, up_i (by omega)]; exact ho i hi, fun i i0 i1 => by rw [e6, up_i (by omega)]; exact hlo i i0 (by omega), fun i i0 i1 => ?_⟩ (by omega)
      · refine ⟨Int.not_lt.mp fun z3 => ?_, by omega⟩
        have e : x = k * 5 + q := by omega
        have := hp.2.1 (x - 1 - k * 5) (by omega) (by omega)
        omega
      · rw [e6]
        by_cases e : k * 5 + i = x
        · rw [e, up_s, show x - 1 - k * 5 = i - 1 by omega]
        · rw [up_i e]; exact hhi i (by omega) i1
theorem s3_dropLimit {b : Nat} {s : Rw} {k l q : Int} {σ : St} {K : St → Prop} (hd : Dm s) (hm : Ms σ b s) (k0 : 0 ≤ k) (k1 : k < 12) (rl : Rg l) (hp : PLC s k l q) (hyes : hasL s k l = true)
    (h : ∀ σ' : St, (∀ c : Nat, c ≠ b + 8 → c ≠ b + 9 → σ' c = σ c) → Ms σ' b (limT s k l q) → K σ') : f_X3_dropLimit b k l σ K := by
  have hk := (hd.kind k k0 k1).2.2
  have mk := hm.kind k k0 k1
  have hN : limN s k l = nl s k - 1 := by unfold limN; rw [if_pos hyes]
  have hp' := (plc_has hd k0 k1 hp).mp hyes
  have hq0 := hp.1
  unfold f_X3_dropLimit
  intro x1 e1
  subst e1
  refine wl2s_inv (fun x i τ => (0 ≤ i ∧ i ≤ nl s k) ∧ x = (if i ≤ q then i else i - 1) ∧ (∀ c : Nat, c ≠ b + 9 → τ c = σ c) ∧ (∀ j : Int, j < k * 5 ∨ k * 5 + 5 ≤ j → τ (b + 9) j = σ (b + 9) j) ∧ (∀ j : Int, 0 ≤ j → j < x → τ (b + 9) (k * 5 + j) = if j < q then lm s k j else lm s k (j + 1)) ∧ ∀ j : Int, i ≤ j → j < nl s k → τ (b + 9) (k * 5 + j) = lm s k j) (fun _ i _ => (nl s k - i).toNat) ?_ ⟨by omega, by rw [if_pos (by omega)], fun _ _ => rfl, fun _ _ => rfl, fun j j0 j1 => by omega, fun j j0 j1 => mk.2.2.2 j j0 j1⟩
  rintro x i τ ag ⟨hi, hx, hc, ho, hlo, hhi⟩ hag
  have en : τ (b + 8) k = nl s k := by rw [hc _ (by omega)]; exact mk.2.2.1
  rw [en]
  refine ⟨⟨k0, k1⟩, ⟨by omega, by omega⟩, ⟨by omega, by omega⟩, fun z => ⟨⟨k0, k1⟩, ?_⟩, fun z => ⟨by omega, ?_⟩⟩
  · intro s5 e5
    rw [if_neg (by omega)] at hx
    refine h _ (fun c g1 g2 => by rw [e5, up_c g1]; exact hc c g2) (hm.lim hd k0 k1 hp (Or.inl hyes) (fun c g1 g2 => by rw [e5, up_c g1]; exact hc c g2) (fun j => ?_) (fun j j0 j1 => ?_) (fun j hj => ?_))
    · rw [e5, up_if, hN, hc _ (by omega), hx, show i - 1 = nl s k - 1 by omega]
    · rw [hN] at j1
      rw [e5, up_c (by omega)]
      unfold limL
      rw [if_pos hyes]
      exact hlo j j0 (by omega)
    · rw [e5, up_c (by omega)]; exact ho j hj
  · intro x6 e6
    rw [hhi i (by omega) (by omega)] at e6
    have hb := hk.2.1 i hi.1 (by omega)
    subst e6
    refine ⟨⟨by omega, by omega⟩, rl, fun z2 => ?_, fun z2 => ⟨by split at hx <;> omega, ?_⟩⟩
    · have eq : i = q := by
        refine Classical.byContradiction fun z3 => ?_
        by_cases c : i < q
        · have := hp.2.1 i hi.1 c; omega
        · have := lm_lt hd k0 k1 hq0.1 (by omega : q < i) (by omega); omega
      rw [if_pos (by omega)] at hx
      exact hag _ _ _ ⟨by omega, by rw [if_neg (by omega)]; omega, hc, ho, hlo, fun j j0 j1 => hhi j (by omega) j1⟩ (by omega)
    · have nq : i ≠ q := fun e => z2 (by rw [e]; exact hp'.2)
      intro s7 e7
      have hx2 : 0 ≤ x ∧ x ≤ i := by split at hx <;> omega
      refine hag _ _ _ ⟨by omega, ?_, fun c g => by rw [e7, up_c g]; exact hc c g, fun j hj => by rw [e7, up_i (by omega)]; exact ho j hj, fun j j0 j1 => ?_, fun j j0 j1 => by rw [e7, up_i (by omega)]; exact hhi j (by omega) j1⟩ (by omega)
      · by_cases c : i ≤ q
        · rw [if_pos c] at hx; rw [if_pos (by omega)]; omega
        · rw [if_neg c] at hx; rw [if_neg (by omega)]; omega
      · rw [e7]
        by_cases e : j = x
        · subst e
          rw [up_s]
          by_cases c : i ≤ q
          · rw [if_pos c] at hx; rw [if_pos (by omega), hx]
          · rw [if_neg c] at hx; rw [if_neg (by omega), hx, show i - 1 + 1 = i by omega]
        · rw [up_i (by omega)]; exact hlo j j0 (by omega)
/-! ===== kinds, ways ===== -/
theorem Dm.kg {s : Rw} (hd : Dm s) {k r g : Int} (k0 : 0 ≤ k ∧ k < 12) (hr : 0 ≤ r ∧ r ≤ 99) (hg : -1 ≤ g ∧ g ≤ 4) : Dm (setF (setF s (15 + 8 * k) r) (15 + 8 * k + 1) g) := by
  have eq : ∀ i : Int, i ≠ 15 + 8 * k → i ≠ 15 + 8 * k + 1 → setF (setF s (15 + 8 * k) r) (15 + 8 * k + 1) g i = s i := fun i h1 h2 => by rw [setF_n h2, setF_n h1]
  have er : ∀ j : Int, rk (setF (setF s (15 + 8 * k) r) (15 + 8 * k + 1) g) j = if j = k then r else rk s j := fun j => by
    unfold rk
    rw [setF_n (by omega), setF_if]
    by_cases q : j = k
    · rw [if_pos (by omega), if_pos q]
    · rw [if_neg (by omega), if_neg q]
  have eg : ∀ j : Int, gp (setF (setF s (15 + 8 * k) r) (15 + 8 * k + 1) g) j = if j = k then g else gp s j := fun j => by
    unfold gp
    rw [setF_if]
    by_cases q : j = k
    · rw [if_pos (by omega), if_pos q]
    · rw [if_neg (by omega), if_neg q, setF_n (by omega)]
  generalize setF (setF s (15 + 8 * k) r) (15 + 8 * k + 1) g = t at *
  have n0 := hd.n
  unfold Dm
  simp only [eq 0 (by omega) (by omega), eq 1 (by omega) (by omega), eq 2 (by omega) (by omega), eq 3 (by omega) (by omega), eq 4 (by omega) (by omega), eq 5 (by omega) (by omega), eq 6 (by omega) (by omega), eq 7 (by omega) (by omega), eq 8 (by omega) (by omega), eq 9 (by omega) (by omega)]
  refine ⟨hd.set.1, hd.set.2.1, hd.set.2.2.1, hd.set.2.2.2, hd.win.1, hd.win.2.1, hd.win.2.2.1, hd.win.2.2.2.1, hd.win.2.2.2.2, n0, fun g g0 g1 => ?_, fun j j0 j1 => ?_, fun j j0 j1 => ?_⟩
  · rw [eq _ (by omega) (by omega)]; exact hd.way g g0 g1
  · have hk := hd.kind j j0 j1
    have e3 : nl t j = nl s j := eq _ (by omega) (by omega)
    rw [er j, eg j, e3]
    refine ⟨?_, ?_, hk.2.2.1, fun i i0 i1 => ?_, fun i i0 i1 => ?_⟩
    · split
      · exact hr
      · exact hk.1
    · split
      · exact hg
      · exact hk.2.1
    · have e4 : lm t j i = lm s j i := eq _ (by omega) (by omega)
      rw [e4]; exact hk.2.2.2.1 i i0 i1
    · have e4 : lm t j i = lm s j i := eq _ (by omega) (by omega)
      have e5 : lm t j (i + 1) = lm s j (i + 1) := eq _ (by omega) (by omega)
      rw [e4, e5]; exact hk.2.2.2.2 i i0 i1
  · have hs := hd.sign j j0 j1
    have e1 : kd t j = kd s j := eq _ (by omega) (by omega)
    have e2 : co t j = co s j := eq _ (by omega) (by omega)
    have e3 : ro t j = ro s j := eq _ (by omega) (by omega)
    have e4 : va t j = va s j := eq _ (by omega) (by omega)
    have e5 : le' t j = le' s j := eq _ (by omega) (by omega)
    rw [e1, e2, e3, e4, e5]; exact hs
theorem Ms.kg {σ : St} {b : Nat} {s : Rw} {k r g : Int} (hd : Dm s) (h : Ms σ b s) (k0 : 0 ≤ k ∧ k < 12) : Ms (up2 (up2 σ (b + 6) k r) (b + 7) k g) b (setF (setF s (15 + 8 * k) r) (15 + 8 * k + 1) g) := by
  have eq : ∀ i : Int, i ≠ 15 + 8 * k → i ≠ 15 + 8 * k + 1 → setF (setF s (15 + 8 * k) r) (15 + 8 * k + 1) g i = s i := fun i h1 h2 => by rw [setF_n h2, setF_n h1]
  refine h.chg (eq 9 (by omega) (by omega)) (fun i hi => eq i (by omega) (by omega)) (fun c g1 g2 => by rw [up_c (by omega), up_c (by omega)]) (fun j j0 j1 => ?_) (fun i i0 i1 => ?_) (fun i i0 i1 => ?_) (fun i i0 i1 => ?_)
  · have m := h.kind j j0 j1
    have hk := (hd.kind j j0 j1).2.2.1
    have e3 : nl (setF (setF s (15 + 8 * k) r) (15 + 8 * k + 1) g) j = nl s j := eq _ (by omega) (by omega)
    rw [e3]
    refine ⟨?_, ?_, by rw [up_c (by omega), up_c (by omega)]; exact m.2.2.1, fun i i0 i1 => ?_⟩
    · rw [up_c (by omega), up_if]
      unfold rk
      rw [setF_n (by omega), setF_if]
      by_cases q : j = k
      · rw [if_pos q, if_pos (by omega)]
      · rw [if_neg q, if_neg (by omega)]; exact m.1
    · rw [up_if]
      unfold gp
      rw [setF_if]
      by_cases q : j = k
      · rw [if_pos q, if_pos (by omega)]
      · rw [if_neg q, if_neg (by omega), up_c (by omega), setF_n (by omega)]; exact m.2.1
    · have e4 : lm (setF (setF s (15 + 8 * k) r) (15 + 8 * k + 1) g) j i = lm s j i := eq _ (by omega) (by omega)
      rw [e4, up_c (by omega), up_c (by omega)]; exact m.2.2.2 i i0 i1
  · rw [up_c (by omega), up_c (by omega), eq _ (by omega) (by omega)]; exact h.way i i0 i1
  · rw [up_c (by omega), up_c (by omega), eq _ (by omega) (by omega)]; exact h.win i i0 i1
  · rw [up_c (by omega), up_c (by omega), eq _ (by omega) (by omega)]; exact h.set i i0 i1
theorem Dm.wy {s : Rw} (hd : Dm s) {g w : Int} (g0 : 0 ≤ g ∧ g < 5) (hw : 0 ≤ w ∧ w ≤ 1) : Dm (setF s (10 + g) w) := by
  have eq : ∀ i : Int, i ≠ 10 + g → setF s (10 + g) w i = s i := fun i h1 => setF_n h1
  have ew : ∀ j : Int, setF s (10 + g) w (10 + j) = if j = g then w else s (10 + j) := fun j => by
    rw [setF_if]
    by_cases q : j = g
    · rw [if_pos (by omega), if_pos q]
    · rw [if_neg (by omega), if_neg q]
  generalize setF s (10 + g) w = t at *
  have n0 := hd.n
  unfold Dm
  simp only [eq 0 (by omega), eq 1 (by omega), eq 2 (by omega), eq 3 (by omega), eq 4 (by omega), eq 5 (by omega), eq 6 (by omega), eq 7 (by omega), eq 8 (by omega), eq 9 (by omega)]
  refine ⟨hd.set.1, hd.set.2.1, hd.set.2.2.1, hd.set.2.2.2, hd.win.1, hd.win.2.1, hd.win.2.2.1, hd.win.2.2.2.1, hd.win.2.2.2.2, n0, fun j j0 j1 => ?_, fun j j0 j1 => ?_, fun j j0 j1 => ?_⟩
  · rw [ew j]
    split
    · exact hw
    · exact hd.way j j0 j1
  · have hk := hd.kind j j0 j1
    have e1 : rk t j = rk s j := eq _ (by omega)
    have e2 : gp t j = gp s j := eq _ (by omega)
    have e3 : nl t j = nl s j := eq _ (by omega)
    rw [e1, e2, e3]
    refine ⟨hk.1, hk.2.1, hk.2.2.1, fun i i0 i1 => ?_, fun i i0 i1 => ?_⟩
    · have e4 : lm t j i = lm s j i := eq _ (by omega)
      rw [e4]; exact hk.2.2.2.1 i i0 i1
    · have e4 : lm t j i = lm s j i := eq _ (by omega)
      have e5 : lm t j (i + 1) = lm s j (i + 1) := eq _ (by omega)
      rw [e4, e5]; exact hk.2.2.2.2 i i0 i1
  · have hs := hd.sign j j0 j1
    have e1 : kd t j = kd s j := eq _ (by omega)
    have e2 : co t j = co s j := eq _ (by omega)
    have e3 : ro t j = ro s j := eq _ (by omega)
    have e4 : va t j = va s j := eq _ (by omega)
    have e5 : le' t j = le' s j := eq _ (by omega)
    rw [e1, e2, e3, e4, e5]; exact hs
theorem Ms.wy {σ : St} {b : Nat} {s : Rw} {g w : Int} (hd : Dm s) (h : Ms σ b s) (g0 : 0 ≤ g ∧ g < 5) : Ms (up2 σ (b + 10) g w) b (setF s (10 + g) w) := by
  have eq : ∀ i : Int, i ≠ 10 + g → setF s (10 + g) w i = s i := fun i h1 => setF_n h1
  refine h.chg (eq 9 (by omega)) (fun i hi => eq i (by omega)) (fun c g1 g2 => up_c (by omega)) (fun j j0 j1 => ?_) (fun i i0 i1 => ?_) (fun i i0 i1 => ?_) (fun i i0 i1 => ?_)
  · have m := h.kind j j0 j1
    have hk := (hd.kind j j0 j1).2.2.1
    have e1 : rk (setF s (10 + g) w) j = rk s j := eq _ (by omega)
    have e2 : gp (setF s (10 + g) w) j = gp s j := eq _ (by omega)
    have e3 : nl (setF s (10 + g) w) j = nl s j := eq _ (by omega)
    rw [e1, e2, e3, up_c (by omega), up_c (by omega), up_c (by omega), up_c (by omega)]
    refine ⟨m.1, m.2.1, m.2.2.1, fun i i0 i1 => ?_⟩
    have e4 : lm (setF s (10 + g) w) j i = lm s j i := eq _ (by omega)
    rw [e4]; exact m.2.2.2 i i0 i1
  · rw [up_if, setF_if]
    by_cases q : i = g
    · rw [if_pos q, if_pos (by omega)]
    · rw [if_neg q, if_neg (by omega)]; exact h.way i i0 i1
  · rw [up_c (by omega), eq _ (by omega)]; exact h.win i i0 i1
  · rw [up_c (by omega), eq _ (by omega)]; exact h.set i i0 i1
/-! ===== undo ===== -/
/-! ===== the text ===== -/
