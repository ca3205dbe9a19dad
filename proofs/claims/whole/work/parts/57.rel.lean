/-! ===== class and reference side by side ===== -/
theorem Ms.cong {σ : St} {b : Nat} {s t : Rw} (hd : Dm s) (h : Ms σ b s) (e : ∀ i : Int, 0 ≤ i → i < 311 → t i = s i) : Ms σ b t := by
  have hn := hd.n
  unfold Ms
  rw [e 9 (by decide) (by decide)]
  refine ⟨h.n, fun k k0 k1 => ?_, fun k k0 k1 => ?_, fun g g0 g1 => ?_, fun j j0 j1 => ?_, fun j j0 j1 => ?_⟩
  · have e1 : kd t k = kd s k := e _ (by omega) (by omega)
    have e2 : co t k = co s k := e _ (by omega) (by omega)
    have e3 : ro t k = ro s k := e _ (by omega) (by omega)
    have e4 : va t k = va s k := e _ (by omega) (by omega)
    have e5 : le' t k = le' s k := e _ (by omega) (by omega)
    rw [e1, e2, e3, e4, e5]
    exact h.sign k k0 k1
  · have hk := hd.kind k k0 k1
    have e1 : rk t k = rk s k := e _ (by omega) (by omega)
    have e2 : gp t k = gp s k := e _ (by omega) (by omega)
    have e3 : nl t k = nl s k := e _ (by omega) (by omega)
    have m := h.kind k k0 k1
    rw [e1, e2, e3]
    refine ⟨m.1, m.2.1, m.2.2.1, fun i i0 i1 => ?_⟩
    have e4 : lm t k i = lm s k i := e _ (by omega) (by omega)
    rw [e4]; exact m.2.2.2 i i0 i1
  · rw [e _ (by omega) (by omega)]; exact h.way g g0 g1
  · rw [e _ (by omega) (by omega)]; exact h.win j j0 j1
  · rw [e _ (by omega) (by omega)]; exact h.set j j0 j1
def slot (o j : Int) : Nat := 109 + 13 * ((o + j) % 4).toNat
/-- the saved states of the class, oldest first -/
def RI (σ : St) (p : Int) (P : Int → Rw) : Prop := (0 ≤ σ 0 6 ∧ σ 0 6 ≤ 3) ∧ σ 0 7 = p ∧ (0 ≤ p ∧ p ≤ 4) ∧ ∀ j : Int, 0 ≤ j → j < p → Dm (P j) ∧ Ms σ (slot (σ 0 6) j) (P j)
/-- those of the reference -/
def MI (σ : St) (p : Int) (P : Int → Rw) : Prop := σ 161 4 = p ∧ ∀ j i : Int, 0 ≤ j → j < p → 0 ≤ i → i < 311 → σ 163 (311 * j + i) = P j i
/-- the texts -/
def TX (σ : St) : Prop := (0 ≤ σ 93 1 ∧ σ 93 1 ≤ 160) ∧ σ 161 6 = σ 93 1 ∧ ∀ i : Int, 0 ≤ i → i < σ 93 1 → σ 94 i = σ 166 i ∧ 0 ≤ σ 94 i ∧ σ 94 i ≤ 127
def REL (σ : St) : Prop := Dm (σ 162) ∧ Ms σ 1 (σ 162) ∧ (∃ (p : Int) (P : Int → Rw), RI σ p P ∧ MI σ p P) ∧ TX σ ∧ (σ 14 0 = 0 ∨ (σ 14 0 = 1 ∧ LG σ 14 (σ 162))) ∧ (0 ≤ σ 24 0 ∧ σ 24 0 ≤ 77) ∧ (0 ≤ σ 70 0 ∧ σ 70 0 ≤ 77)
theorem slotB {o j : Int} (h0 : 0 ≤ o) (h1 : 0 ≤ j) : 109 ≤ slot o j ∧ slot o j + 12 ≤ 160 := by unfold slot; omega
theorem slotN {o j i : Int} (h0 : 0 ≤ o) (h1 : 0 ≤ j) (h2 : j < i) (h3 : i < j + 4) : slot o j + 12 < slot o i ∨ slot o i + 12 < slot o j := by unfold slot; omega
theorem RI.go {σ τ : St} {p : Int} {P : Int → Rw} (h : RI σ p P) (e6 : τ 0 6 = σ 0 6) (e7 : τ 0 7 = σ 0 7) (e : ∀ c : Nat, 109 ≤ c → c ≤ 160 → τ c = σ c) : RI τ p P := by
  obtain ⟨h1, h2, h3, h4⟩ := h
  refine ⟨by rw [e6]; exact h1, e7.trans h2, h3, fun j j0 j1 => ⟨(h4 j j0 j1).1, ?_⟩⟩
  have hb := slotB h1.1 j0
  rw [e6]
  exact (h4 j j0 j1).2.go fun c g1 g2 => e c (by omega) (by omega)
theorem MI.go {σ τ : St} {p : Int} {P : Int → Rw} (h : MI σ p P) (e4 : τ 161 4 = σ 161 4) (e : τ 163 = σ 163) : MI τ p P := by
  unfold MI
  rw [e4, e]
  exact h
theorem REL.go {σ τ : St} (h : REL σ) (e : ∀ c : Nat, c < 161 ∨ c = 162 ∨ c = 163 ∨ c = 166 → τ c = σ c) (e4 : τ 161 4 = σ 161 4) (e6 : τ 161 6 = σ 161 6) : REL τ := by
  obtain ⟨h1, h2, ⟨p, P, h3, h4⟩, h5, h6, h7, h8⟩ := h
  have e162 := e 162 (by decide)
  refine ⟨by rw [e162]; exact h1, by rw [e162]; exact h2.go fun c g1 g2 => e c (by omega), ⟨p, P, h3.go (by rw [e 0 (by decide)]) (by rw [e 0 (by decide)]) (fun c g1 g2 => e c (by omega)), h4.go e4 (e 163 (by decide))⟩, ?_, ?_, by rw [e 24 (by decide)]; exact h7, by rw [e 70 (by decide)]; exact h8⟩
  · unfold TX
    rw [e 93 (by decide), e6, e 94 (by decide), e 166 (by decide)]; exact h5
  · rw [e 14 (by decide), e162]
    rcases h6 with z | ⟨z, l⟩
    · exact Or.inl z
    · exact Or.inr ⟨z, l.go fun c g1 g2 => e c (by omega)⟩
theorem REL.d {σ : St} (h : REL σ) : Dm (σ 162) := h.1
theorem REL.m {σ : St} (h : REL σ) : Ms σ 1 (σ 162) := h.2.1
theorem REL.p {σ : St} (h : REL σ) : ∃ (p : Int) (P : Int → Rw), RI σ p P ∧ MI σ p P := h.2.2.1
theorem REL.t {σ : St} (h : REL σ) : TX σ := h.2.2.2.1
theorem REL.g {σ : St} (h : REL σ) : σ 14 0 = 0 ∨ (σ 14 0 = 1 ∧ LG σ 14 (σ 162)) := h.2.2.2.2.1
theorem REL.n {σ : St} (h : REL σ) : 0 ≤ σ 24 0 ∧ σ 24 0 ≤ 77 := h.2.2.2.2.2.1
theorem REL.n2 {σ : St} (h : REL σ) : 0 ≤ σ 70 0 ∧ σ 70 0 ≤ 77 := h.2.2.2.2.2.2
theorem REL.u7 {σ : St} (h : REL σ) (v : Int) : REL (up2 σ 161 7 v) := h.go (fun c hc => up_c (by omega)) (up_i (by decide)) (up_i (by decide))
theorem REL.u176 {σ : St} (h : REL σ) (v : Int) : REL (up2 σ 176 0 v) := h.go (fun c hc => up_c (by omega)) (by rw [up_c (by decide)]) (by rw [up_c (by decide)])
/-- behind a call of each: what the law looks at -/
def TL (x3 x5 : Int) (s6 : St) (J : St → Prop) : Prop := f_X7_thrown s6 (fun x7 => (Rg x7 ∧ Rg x3 ∧ (x7 = x3 → (Rg x3 ∧ (x3 ≠ 0 → J s6) ∧ (¬ x3 ≠ 0 → Rg x5 ∧ s6 176 0 = x5 ∧ J s6))) ∧ (¬ x7 = x3 → False)))
theorem tells_ok {r : Int} {σ : St} {J : St → Prop} (hR : REL σ) (hJ : ∀ τ : St, REL τ → J τ) (rr : Rg r) (h : σ 176 0 = r) : f_X7_tells r σ (fun x s => TL 0 x s J) := by
  intro s1 e1
  have e7 : s1 161 7 = 0 := by rw [e1, up_s]
  have e8 : s1 176 0 = r := by rw [e1, up_c (by decide)]; exact h
  have hR1 : REL s1 := by rw [e1]; exact hR.u7 0
  unfold TL f_X7_thrown
  rw [e7]
  exact ⟨⟨by decide, by decide⟩, ⟨by decide, by decide⟩, fun _ => ⟨⟨by decide, by decide⟩, fun z => absurd rfl z, fun _ => ⟨rr, e8, hJ _ hR1⟩⟩, fun z => absurd rfl z⟩
theorem fails_ok {k : Int} {σ : St} {J : St → Prop} (hR : REL σ) (hJ : ∀ τ : St, REL τ → J τ) (hk : 1 ≤ k ∧ k ≤ 3) : f_X7_fails k σ (fun x s => TL k x s J) := by
  intro s1 e1
  have e7 : s1 161 7 = k := by rw [e1, up_s]
  have hR1 : REL s1 := by rw [e1]; exact hR.u7 k
  unfold TL f_X7_thrown
  rw [e7]
  exact ⟨⟨by omega, by omega⟩, ⟨by omega, by omega⟩, fun _ => ⟨⟨by omega, by omega⟩, fun _ => hJ _ hR1, fun z => by omega⟩, fun z => absurd rfl z⟩
theorem ok_ne {A B : Prop} (h : A) : Rg 1 ∧ ((1 : Int) ≠ 0 → A) ∧ (¬ (1 : Int) ≠ 0 → B) := ⟨⟨by decide, by decide⟩, fun _ => h, fun z => absurd (by decide) z⟩
theorem no_ne {A B : Prop} (h : B) : Rg 0 ∧ ((0 : Int) ≠ 0 → A) ∧ (¬ (0 : Int) ≠ 0 → B) := ⟨⟨by decide, by decide⟩, fun z => absurd rfl z, fun _ => h⟩
theorem ok_eq {A B : Prop} (h : A) : Rg 1 ∧ ((1 : Int) = 0 → B) ∧ (¬ (1 : Int) = 0 → A) := ⟨⟨by decide, by decide⟩, fun z => absurd z (by decide), fun _ => h⟩
theorem no_eq {A B : Prop} (h : B) : Rg 0 ∧ ((0 : Int) = 0 → B) ∧ (¬ (0 : Int) = 0 → A) := ⟨⟨by decide, by decide⟩, fun _ => h, fun z => absurd rfl z⟩
theorem in_ok {a lo hi : Int} {σ : St} {K : Int → Prop} (ha : Rg a) (hl : Rg lo) (hh : Rg hi) (q : lo ≤ a ∧ a ≤ hi) (h : K 1) : f_X7_in a lo hi σ K := s7_in ha hl hh (by rw [decide_eq_true q]; exact h)
theorem in_no {a lo hi : Int} {σ : St} {K : Int → Prop} (ha : Rg a) (hl : Rg lo) (hh : Rg hi) (q : ¬ (lo ≤ a ∧ a ≤ hi)) (h : K 0) : f_X7_in a lo hi σ K := s7_in ha hl hh (by rw [decide_eq_false q]; exact h)
theorem kind_ok {a : Int} {σ : St} {K : Int → Prop} (q : 0 ≤ a ∧ a < 12) (h : K 1) : f_X7_isKind a σ K := s7_isKind ⟨by omega, by omega⟩ (by rw [decide_eq_true (by omega)]; exact h)
theorem kind_no {a : Int} {σ : St} {K : Int → Prop} (ha : Rg a) (q : ¬ (0 ≤ a ∧ a < 12)) (h : K 0) : f_X7_isKind a σ K := s7_isKind ha (by rw [decide_eq_false (by omega)]; exact h)
theorem sign_ok {a : Int} {σ : St} {K : Int → Prop} (hd : Dm (σ 162)) (q : 0 ≤ a ∧ a < σ 162 9) (h : K 1) : f_X7_isSign a σ K := s7_isSign (by have := hd.n; exact ⟨by omega, by omega⟩) hd (by rw [decide_eq_true q]; exact h)
theorem sign_no {a : Int} {σ : St} {K : Int → Prop} (hd : Dm (σ 162)) (ha : Rg a) (q : ¬ (0 ≤ a ∧ a < σ 162 9)) (h : K 0) : f_X7_isSign a σ K := s7_isSign ha hd (by rw [decide_eq_false q]; exact h)
theorem s6_demandKind {p : Int} {σ : St} {K : Prop} {X : Nat → Prop} (hp : Rg p) (h : 0 ≤ p ∧ p < 12 → K) (g : ¬ (0 ≤ p ∧ p < 12) → X 1) : f_X6_demandKind p σ K X := ⟨hp, fun z => g (by omega), fun _ => ⟨hp, fun z => h (by omega), fun z => g (by omega)⟩⟩
theorem s6_demandBelow {p n : Int} {σ : St} {K : Prop} {X : Nat → Prop} (hp : Rg p) (hn : Rg n) (h : 0 ≤ p ∧ p < n → K) (g : ¬ (0 ≤ p ∧ p < n) → X 2) : f_X6_demandBelow p n σ K X := ⟨hp, fun z => g (by omega), fun _ => ⟨hp, hn, fun z => h (by omega), fun z => g (by omega)⟩⟩
theorem s6_demandSpan {p : Int} {σ : St} {K : Prop} {X : Nat → Prop} (hp : Rg p) (h : 10 ≤ p ∧ p ≤ 200 → K) (g : ¬ (10 ≤ p ∧ p ≤ 200) → X 2) : f_X6_demandSpan p σ K X := ⟨hp, fun z => g (by omega), fun _ => ⟨hp, fun z => h (by omega), fun z => g (by omega)⟩⟩
theorem s6_demandSign {p : Int} {s : Rw} {σ : St} {K : Prop} {X : Nat → Prop} (hd : Dm s) (hm : Ms σ 1 s) (hp : Rg p) (h : 0 ≤ p ∧ p < s 9 → K) (g : ¬ (0 ≤ p ∧ p < s 9) → X 1) : f_X6_demandSign p σ K X := by
  have hn := hd.n
  unfold f_X6_demandSign
  rw [hm.n]
  exact ⟨hp, fun z => g (by omega), fun _ => ⟨hp, ⟨by omega, by omega⟩, fun z => h (by omega), fun z => g (by omega)⟩⟩
/-- a legend of the class, a legend of the reference -/
theorem q_cls {σ : St} {K : St → Prop} (hR : REL σ) (h : ∀ τ : St, REL τ → LG τ 14 (τ 162) → τ 162 = σ 162 → (∀ c : Nat, c < 14 ∨ 46 < c → τ c = σ c) → K τ) : f_X1_make 14 1 σ K := by
  refine s1_make hR.d hR.m (by decide) hR.n hR.g fun τ hc h0 hl => ?_
  have e162 : τ 162 = σ 162 := hc 162 (by decide)
  have hl2 : LG τ 14 (τ 162) := by rw [e162]; exact hl
  refine h τ ?_ hl2 e162 hc
  obtain ⟨h1, h2, ⟨p, P, h3, h4⟩, h5, h6, h7, h8⟩ := hR
  refine ⟨by rw [e162]; exact h1, by rw [e162]; exact h2.go fun c g1 g2 => hc c (by omega), ⟨p, P, h3.go (by rw [hc 0 (by decide)]) (by rw [hc 0 (by decide)]) (fun c g1 g2 => hc c (by omega)), h4.go (by rw [hc 161 (by decide)]) (hc 163 (by decide))⟩, ?_, Or.inr ⟨h0, hl2⟩, ?_, by rw [hc 70 (by decide)]; exact h8⟩
  · unfold TX
    rw [hc 93 (by decide), hc 161 (by decide), hc 94 (by decide), hc 166 (by decide)]; exact h5
  · have := hl.cl.1
    have h9 := LF_len h1
    rw [show (24 : Nat) = 14 + 10 by rfl, this]
    omega
theorem q_mod {σ : St} {K : St → Prop} (hR : REL σ) (h : ∀ τ : St, REL τ → L7 τ (τ 162) → τ 162 = σ 162 → FR σ τ → K τ) : f_X7_makes σ K := by
  refine s7_makes hR.d fun τ hf hl => ?_
  have e162 : τ 162 = σ 162 := hf.1 162 (by decide)
  exact h τ (hR.go (fun c hc => hf.1 c (by omega)) (hf.2 4 (by decide)) (hf.2 6 (by decide))) (by rw [e162]; exact hl) e162 hf
/-! ===== saving a state ===== -/
def pushN (p : Int) : Int := if p = 4 then 4 else p + 1
def pushP (p : Int) (P : Int → Rw) (s : Rw) : Int → Rw := if p = 4 then fun j => if j = 3 then s else P (j + 1) else fun j => if j = p then s else P j
theorem s6_saveState {p : Int} {P : Int → Rw} {s : Rw} {σ : St} {K : St → Prop} (hd : Dm s) (hm : Ms σ 1 s) (hr : RI σ p P)
    (h : ∀ σ' : St, (∀ c : Nat, c ≠ 0 → c ≠ 14 → (c < 109 ∨ 160 < c) → σ' c = σ c) → (∀ f : Int, f ≠ 0 → σ' 14 f = σ 14 f) → σ' 14 0 = 0 → RI σ' (pushN p) (pushP p P s) → K σ') : f_X6_saveState σ K := by
  obtain ⟨h1, h2, h3, h4⟩ := hr
  unfold f_X6_saveState
  rw [h2]
  refine wj0s_intro (fun τ => ∃ (n : Int) (Q : Int → Rw), (∀ c : Nat, c ≠ 0 → τ c = σ c) ∧ (0 ≤ n ∧ n ≤ 3) ∧ RI τ n Q ∧ n + 1 = pushN p ∧ (∀ j : Int, 0 ≤ j → j < n → Q j = pushP p P s j) ∧ pushP p P s n = s) (fun τ => ?_) (fun J hJ => ⟨⟨by omega, by omega⟩, fun q => hJ _ ⟨p, P, fun _ _ => rfl, by omega, ⟨h1, h2, h3, h4⟩, ?_, fun j j0 j1 => ?_, ?_⟩, fun q => ⟨⟨by omega, by omega⟩, ?_⟩⟩)
  · rintro ⟨n, Q, hc, hn, ⟨t1, t2, t3, t4⟩, en, eQ, es⟩
    rw [t2]
    refine ⟨⟨by omega, by omega⟩, ⟨by omega, by omega⟩, ?_⟩
    intro r5 e5
    have er : r5 = slot (τ 0 6) n := e5
    have hb := slotB t1.1 hn.1
    rw [← er] at hb
    refine s3_copyFrom (by omega) fun σ6 hcf => ?_
    obtain ⟨g1, g2, g3⟩ := hcf
    intro s7 e7 s8 e8
    have a7 : σ6 0 7 = n := by rw [g1 0 (by omega)]; exact t2
    have k8 : ∀ c : Nat, c ≠ 0 → c ≠ 14 → (c < r5 ∨ r5 + 12 < c) → s8 c = σ c := fun c z1 z2 z3 => by rw [e8, up_c z2, e7, up_c z1, g1 c z3, hc c z1]
    have k06 : s8 0 6 = τ 0 6 := by rw [e8, up_c (by decide), e7, up_i (by decide), g1 0 (by omega)]
    refine h _ (fun c z1 z2 z3 => k8 c z1 z2 (by omega)) (fun f z => ?_) (by rw [e8, up_s]) ⟨by rw [k06]; exact t1, ?_, by rw [← en]; omega, fun j j0 j1 => ?_⟩
    · rw [e8, up_i z, e7, up_c (by decide), g1 14 (by omega), hc 14 (by decide)]
    · rw [e8, up_c (by decide), e7, up_s, a7]; exact en
    · rw [k06]
      rw [← en] at j1
      by_cases q : j = n
      · subst q
        rw [es, ← er]
        refine ⟨hd, (g3 s hd (hm.go fun c z1 z2 => hc c (by omega))).go fun c z1 z2 => by rw [e8, up_c (by omega), e7, up_c (by omega)]⟩
      · have ht := t4 j j0 (by omega)
        rw [← eQ j j0 (by omega)]
        have hsn := slotN t1.1 j0 (by omega : j < n) (by omega)
        have hsb := slotB t1.1 j0
        rw [← er] at hsn
        exact ⟨ht.1, ht.2.go fun c z1 z2 => by rw [e8, up_c (by omega), e7, up_c (by omega), g1 c (by omega)]⟩
  · unfold pushN; rw [if_neg q]
  · unfold pushP; rw [if_neg q, if_neg (by omega)]
  · unfold pushP; rw [if_neg q, if_pos rfl]
  · have q : p = 4 := Decidable.not_not.mp q
    intro s2 e2 s3 e3
    have a6 : s3 0 6 = (σ 0 6 + 1) % 4 := by rw [e3, up_i (by decide), e2, up_s]
    refine hJ _ ⟨3, fun j => P (j + 1), fun c z => by rw [e3, up_c z, e2, up_c z], by decide, ⟨by rw [a6]; omega, ?_, by decide, fun j j0 j1 => ?_⟩, ?_, fun j j0 j1 => ?_, ?_⟩
    · rw [e3, up_s, e2, up_i (by decide), h2, q]; rfl
    · have ht := h4 (j + 1) (by omega) (by omega)
      have es : slot (s3 0 6) j = slot (σ 0 6) (j + 1) := by rw [a6]; unfold slot; omega
      rw [es]
      have hsb := slotB h1.1 (by omega : 0 ≤ j + 1)
      exact ⟨ht.1, ht.2.go fun c z1 z2 => by rw [e3, up_c (by omega), e2, up_c (by omega)]⟩
    · unfold pushN; rw [if_pos q]; rfl
    · unfold pushP; rw [if_pos q, if_neg (by omega)]
    · unfold pushP; rw [if_pos q, if_pos rfl]
theorem s7_copies {c d : Nat} {σ : St} {K : St → Prop} (hcd : c ≠ d) (h : ∀ σ' : St, (∀ e : Nat, e ≠ c → σ' e = σ e) → (∀ i : Int, σ' c i = if 0 ≤ i ∧ i < 311 then σ d i else σ c i) → K σ') : f_X7_copies c d σ K := by
  unfold f_X7_copies
  refine wl1s_inv (fun j τ => (0 ≤ j ∧ j ≤ 311) ∧ (∀ e : Nat, e ≠ c → τ e = σ e) ∧ ∀ i : Int, τ c i = if 0 ≤ i ∧ i < j then σ d i else σ c i) (fun j _ => (311 - j).toNat) ?_ ⟨by omega, fun _ _ => rfl, fun i => by rw [if_neg (by omega)]⟩
  rintro j τ ag ⟨hj, hc, hi⟩ hag
  refine ⟨⟨by omega, by omega⟩, fun q => ?_, fun q => ⟨by omega, by omega, ?_⟩⟩
  · have e : j = 311 := by omega
    subst e
    exact h τ hc hi
  · intro s3 e3
    refine hag _ _ ⟨by omega, fun e g => by rw [e3, up_c g]; exact hc e g, fun i => ?_⟩ (by omega)
    rw [e3]
    by_cases q2 : i = j
    · rw [q2, up_s, if_pos (by omega), hc d (fun z => hcd z.symm)]
    · rw [up_i q2, hi i]
      by_cases q3 : 0 ≤ i ∧ i < j
      · rw [if_pos q3, if_pos (by omega)]
      · rw [if_neg q3, if_neg (by omega)]
theorem s7_hold {σ : St} {K : St → Prop} (h : ∀ σ' : St, (∀ e : Nat, e ≠ 164 → σ' e = σ e) → (∀ i : Int, 0 ≤ i → i < 311 → σ' 164 i = σ 162 i) → K σ') : f_X7_hold σ K := s7_copies (by decide) fun σ' h1 h2 => h σ' h1 fun i i0 i1 => by rw [h2 i, if_pos ⟨i0, i1⟩]
theorem s7_ends {a p : Int} {P : Int → Rw} {s : Rw} {σ : St} {K : Int → St → Prop} (hp : 0 ≤ p ∧ p ≤ 4) (hM : MI σ p P) (hs : ∀ i : Int, 0 ≤ i → i < 311 → σ 164 i = s i)
    (h : ∀ σ' : St, (∀ c : Nat, c ≠ 161 → c ≠ 163 → σ' c = σ c) → (∀ f : Int, f ≠ 4 → f ≠ 7 → σ' 161 f = σ 161 f) → MI σ' (pushN p) (pushP p P s) → f_X7_tells a σ' K) : f_X7_ends a σ K := by
  unfold f_X7_ends
  rw [hM.1]
  refine wj0s_intro (fun τ => ∃ (n : Int) (Q : Int → Rw), (∀ c : Nat, c ≠ 161 → c ≠ 163 → τ c = σ c) ∧ (∀ f : Int, f ≠ 4 → τ 161 f = σ 161 f) ∧ (0 ≤ n ∧ n ≤ 3) ∧ MI τ n Q ∧ n + 1 = pushN p ∧ (∀ j : Int, 0 ≤ j → j < n → Q j = pushP p P s j) ∧ pushP p P s n = s) (fun τ => ?_) (fun J hJ => ⟨⟨by omega, by omega⟩, fun q => hJ _ ⟨p, P, fun _ _ _ => rfl, fun _ _ => rfl, by omega, hM, ?_, fun j j0 j1 => ?_, ?_⟩, fun q => ?_⟩)
  · rintro ⟨n, Q, hc, hf, hn, ⟨t4, tQ⟩, en, eQ, es⟩
    refine wl1s_inv (fun i ρ => (0 ≤ i ∧ i ≤ 311) ∧ (∀ c : Nat, c ≠ 163 → ρ c = τ c) ∧ (∀ k : Int, k < 311 * n → ρ 163 k = τ 163 k) ∧ ∀ k : Int, 0 ≤ k → k < i → ρ 163 (311 * n + k) = s k) (fun i _ => (311 - i).toNat) ?_ ⟨by omega, fun _ _ => rfl, fun _ _ => rfl, fun k k0 k1 => by omega⟩
    rintro i ρ ag ⟨hi, rc, rl, rh⟩ hag
    have r4 : ρ 161 4 = n := by rw [rc 161 (by decide)]; exact t4
    refine ⟨⟨by omega, by omega⟩, fun q => ?_, fun q => ?_⟩
    · have e : i = 311 := by omega
      subst e
      intro s9 e9
      refine h s9 (fun c g1 g2 => by rw [e9, up_c g1, rc c g2, hc c g1 g2]) (fun f g1 g2 => by rw [e9, up_i g1, rc 161 (by decide), hf f g1]) ⟨?_, fun j i j0 j1 i0 i1 => ?_⟩
      · rw [e9, up_s, r4]; exact en
      · rw [e9, up_c (by decide)]
        rw [← en] at j1
        by_cases q2 : j = n
        · rw [q2, es]; exact rh i i0 i1
        · rw [rl _ (by omega), ← eQ j j0 (by omega)]; exact tQ j i j0 (by omega) i0 i1
    · rw [r4]
      refine ⟨by omega, by omega, ?_⟩
      intro s12 e12
      refine hag _ _ ⟨by omega, fun c g => by rw [e12, up_c g]; exact rc c g, fun k hk => by rw [e12, up_i (by omega)]; exact rl k hk, fun k k0 k1 => ?_⟩ (by omega)
      rw [e12]
      by_cases q2 : k = i
      · rw [q2, up_s, rc 164 (by decide), hc 164 (by decide) (by decide)]; exact hs i hi.1 (by omega)
      · rw [up_i (by omega)]; exact rh k k0 (by omega)
  · unfold pushN; rw [if_neg q]
  · unfold pushP; rw [if_neg q, if_neg (by omega)]
  · unfold pushP; rw [if_neg q, if_pos rfl]
  · have q : p = 4 := Decidable.not_not.mp q
    refine wl1s_inv (fun i τ => (0 ≤ i ∧ i ≤ 933) ∧ (∀ c : Nat, c ≠ 163 → τ c = σ c) ∧ (∀ k : Int, 0 ≤ k → k < i → τ 163 k = σ 163 (k + 311)) ∧ ∀ k : Int, i ≤ k → τ 163 k = σ 163 k) (fun i _ => (933 - i).toNat) ?_ ⟨by omega, fun _ _ => rfl, fun k k0 k1 => by omega, fun _ _ => rfl⟩
    rintro i τ ag ⟨hi, tc, tl, th⟩ hag
    refine ⟨⟨by omega, by omega⟩, fun q2 => ?_, fun q2 => ⟨by omega, by omega, ?_⟩⟩
    · have e : i = 933 := by omega
      subst e
      intro s4 e4
      refine hJ _ ⟨3, fun j => P (j + 1), fun c g1 g2 => by rw [e4, up_c g1, tc c g2], fun f g => by rw [e4, up_i g, tc 161 (by decide)], by decide, ⟨?_, fun j i j0 j1 i0 i1 => ?_⟩, ?_, fun j j0 j1 => ?_, ?_⟩
      · rw [e4, up_s, tc 161 (by decide), hM.1, q]; rfl
      · rw [e4, up_c (by decide), tl _ (by omega) (by omega), show 311 * j + i + 311 = 311 * (j + 1) + i by omega]
        exact hM.2 (j + 1) i (by omega) (by omega) i0 i1
      · unfold pushN; rw [if_pos q]; rfl
      · unfold pushP; rw [if_pos q, if_neg (by omega)]
      · unfold pushP; rw [if_pos q, if_pos rfl]
    · intro s5 e5
      refine hag _ _ ⟨by omega, fun c g => by rw [e5, up_c g]; exact tc c g, fun k k0 k1 => ?_, fun k hk => ?_⟩ (by omega)
      · rw [e5]
        by_cases q3 : k = i
        · rw [q3, up_s]; exact th _ (by omega)
        · rw [up_i q3]; exact tl k k0 (by omega)
      · rw [e5, up_i (by omega)]; exact th k (by omega)
