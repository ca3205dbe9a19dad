/-! ===== rows changed ===== -/
def putS (s : Rw) (a b c d e : Int) : Rw := fun i => if i = 9 then s 9 + 1 else if i = 111 + 5 * s 9 then a else if i = 111 + 5 * s 9 + 1 then b else if i = 111 + 5 * s 9 + 2 then c else if i = 111 + 5 * s 9 + 3 then d else if i = 111 + 5 * s 9 + 4 then e else s i
def dropS (s : Rw) (k : Int) : Rw := fun i => if i = 9 then s 9 - 1 else if 111 + 5 * k ≤ i ∧ i < 111 + 5 * (s 9 - 1) then s (i + 5) else s i
/-- the signs of a map; what else belongs to it -/
def Sg (σ : St) (b : Nat) (s : Rw) : Prop := σ b 5 = s 9 ∧ ∀ k : Int, 0 ≤ k → k < s 9 → σ (b + 1) k = kd s k ∧ σ (b + 2) k = co s k ∧ σ (b + 3) k = ro s k ∧ σ (b + 4) k = va s k ∧ σ (b + 5) k = le' s k
theorem Ms.sg {σ : St} {b : Nat} {s : Rw} (h : Ms σ b s) : Sg σ b s := ⟨h.1, h.2.1⟩
theorem Sg.go {σ τ : St} {b : Nat} {s : Rw} (h : Sg σ b s) (e : ∀ c : Nat, b ≤ c → c ≤ b + 5 → τ c = σ c) : Sg τ b s := by
  unfold Sg
  rw [e b (by omega) (by omega), e (b + 1) (by omega) (by omega), e (b + 2) (by omega) (by omega), e (b + 3) (by omega) (by omega), e (b + 4) (by omega) (by omega), e (b + 5) (by omega) (by omega)]
  exact h
theorem Sg.ms {σ τ : St} {b : Nat} {s t : Rw} (hd : Dm s) (h : Ms σ b s) (g : Sg τ b t) (e : ∀ c : Nat, b + 6 ≤ c → c ≤ b + 12 → τ c = σ c) (hr : ∀ i : Int, 0 ≤ i → i < 111 → i ≠ 9 → t i = s i) : Ms τ b t := by
  refine ⟨g.1, g.2, ?_, ?_, ?_, ?_⟩
  · intro k k0 k1
    have hk := hd.kind k k0 k1
    have m := h.kind k k0 k1
    rw [e (b + 6) (by omega) (by omega), e (b + 7) (by omega) (by omega), e (b + 8) (by omega) (by omega), e (b + 9) (by omega) (by omega)]
    have e1 : rk t k = rk s k := hr _ (by omega) (by omega) (by omega)
    have e2 : gp t k = gp s k := hr _ (by omega) (by omega) (by omega)
    have e3 : nl t k = nl s k := hr _ (by omega) (by omega) (by omega)
    rw [e1, e2, e3]
    refine ⟨m.1, m.2.1, m.2.2.1, fun i i0 i1 => ?_⟩
    have e4 : lm t k i = lm s k i := hr _ (by omega) (by omega) (by omega)
    rw [e4]; exact m.2.2.2 i i0 i1
  · intro j j0 j1
    rw [e (b + 10) (by omega) (by omega), hr _ (by omega) (by omega) (by omega)]; exact h.way j j0 j1
  · intro j j0 j1
    rw [e (b + 11) (by omega) (by omega), hr _ (by omega) (by omega) (by omega)]; exact h.win j j0 j1
  · intro j j0 j1
    rw [e (b + 12) (by omega) (by omega), hr _ (by omega) (by omega) (by omega)]; exact h.set j j0 j1
/-- only places 0 to 310 matter -/
theorem Dm.go {s t : Rw} (h : Dm s) (e : ∀ i : Int, 0 ≤ i → i < 311 → t i = s i) : Dm t := by
  have hn := h.n
  have hk0 := h.kind
  have hs0 := h.sign
  unfold Dm
  simp only [e 0 (by decide) (by decide), e 1 (by decide) (by decide), e 2 (by decide) (by decide), e 3 (by decide) (by decide), e 4 (by decide) (by decide), e 5 (by decide) (by decide), e 6 (by decide) (by decide), e 7 (by decide) (by decide), e 8 (by decide) (by decide), e 9 (by decide) (by decide)]
  refine ⟨h.set.1, h.set.2.1, h.set.2.2.1, h.set.2.2.2, h.win.1, h.win.2.1, h.win.2.2.1, h.win.2.2.2.1, h.win.2.2.2.2, hn, fun g g0 g1 => ?_, fun k k0 k1 => ?_, fun k k0 k1 => ?_⟩
  · rw [e _ (by omega) (by omega)]; exact h.way g g0 g1
  · have hk := hk0 k k0 k1
    have e1 : rk t k = rk s k := e _ (by omega) (by omega)
    have e2 : gp t k = gp s k := e _ (by omega) (by omega)
    have e3 : nl t k = nl s k := e _ (by omega) (by omega)
    rw [e1, e2, e3]
    refine ⟨hk.1, hk.2.1, hk.2.2.1, fun i i0 i1 => ?_, fun i i0 i1 => ?_⟩
    · have e4 : lm t k i = lm s k i := e _ (by omega) (by omega)
      rw [e4]; exact hk.2.2.2.1 i i0 i1
    · have e4 : lm t k i = lm s k i := e _ (by omega) (by omega)
      have e5 : lm t k (i + 1) = lm s k (i + 1) := e _ (by omega) (by omega)
      rw [e4, e5]; exact hk.2.2.2.2 i i0 i1
  · have hs := hs0 k k0 k1
    have e1 : kd t k = kd s k := e _ (by omega) (by omega)
    have e2 : co t k = co s k := e _ (by omega) (by omega)
    have e3 : ro t k = ro s k := e _ (by omega) (by omega)
    have e4 : va t k = va s k := e _ (by omega) (by omega)
    have e5 : le' t k = le' s k := e _ (by omega) (by omega)
    rw [e1, e2, e3, e4, e5]; exact hs
theorem Sg.row {σ : St} {b : Nat} {s t : Rw} (h : Sg σ b s) (hn : s 9 ≤ 40) (e : ∀ i : Int, 0 ≤ i → i < 311 → t i = s i) : Sg σ b t := by
  unfold Sg
  rw [e 9 (by decide) (by decide)]
  refine ⟨h.1, fun k k0 k1 => ?_⟩
  have e1 : kd t k = kd s k := e _ (by omega) (by omega)
  have e2 : co t k = co s k := e _ (by omega) (by omega)
  have e3 : ro t k = ro s k := e _ (by omega) (by omega)
  have e4 : va t k = va s k := e _ (by omega) (by omega)
  have e5 : le' t k = le' s k := e _ (by omega) (by omega)
  rw [e1, e2, e3, e4, e5]; exact h.2 k k0 k1
theorem Ms.row {σ : St} {b : Nat} {s t : Rw} (hd : Dm s) (h : Ms σ b s) (e : ∀ i : Int, 0 ≤ i → i < 311 → t i = s i) : Ms σ b t :=
  Sg.ms hd h (Sg.row h.sg hd.n.2 e) (fun _ _ _ => rfl) (fun i i0 i1 _ => e i i0 (by omega))
theorem Dm.put {s : Rw} (hd : Dm s) {a b c d e : Int} (hn : s 9 < 40) (ha : 0 ≤ a ∧ a ≤ 11) (hb : 0 ≤ b ∧ b ≤ 199) (hc : 0 ≤ c ∧ c ≤ 199) (hdd : 0 ≤ d ∧ d ≤ 9999) (he : 0 ≤ e ∧ e ≤ 5) : Dm (putS s a b c d e) := by
  have n0 := hd.n
  have eq : ∀ i : Int, i ≠ 9 → (i < 111 + 5 * s 9 ∨ 111 + 5 * s 9 + 4 < i) → putS s a b c d e i = s i := fun i h1 h2 => by
    unfold putS
    rw [if_neg h1, if_neg (by omega), if_neg (by omega), if_neg (by omega), if_neg (by omega), if_neg (by omega)]
  have e9 : putS s a b c d e 9 = s 9 + 1 := rfl
  unfold Dm
  rw [e9]
  simp only [eq 0 (by decide) (by omega), eq 1 (by decide) (by omega), eq 2 (by decide) (by omega), eq 3 (by decide) (by omega), eq 4 (by decide) (by omega), eq 5 (by decide) (by omega), eq 6 (by decide) (by omega), eq 7 (by decide) (by omega), eq 8 (by decide) (by omega)]
  refine ⟨hd.set.1, hd.set.2.1, hd.set.2.2.1, hd.set.2.2.2, hd.win.1, hd.win.2.1, hd.win.2.2.1, hd.win.2.2.2.1, hd.win.2.2.2.2, by omega, fun g g0 g1 => ?_, fun k k0 k1 => ?_, fun k k0 k1 => ?_⟩
  · rw [eq _ (by omega) (by omega)]; exact hd.way g g0 g1
  · have hk := hd.kind k k0 k1
    have e1 : rk (putS s a b c d e) k = rk s k := eq _ (by omega) (by omega)
    have e2 : gp (putS s a b c d e) k = gp s k := eq _ (by omega) (by omega)
    have e3 : nl (putS s a b c d e) k = nl s k := eq _ (by omega) (by omega)
    rw [e1, e2, e3]
    refine ⟨hk.1, hk.2.1, hk.2.2.1, fun i i0 i1 => ?_, fun i i0 i1 => ?_⟩
    · have e4 : lm (putS s a b c d e) k i = lm s k i := eq _ (by omega) (by omega)
      rw [e4]; exact hk.2.2.2.1 i i0 i1
    · have e4 : lm (putS s a b c d e) k i = lm s k i := eq _ (by omega) (by omega)
      have e5 : lm (putS s a b c d e) k (i + 1) = lm s k (i + 1) := eq _ (by omega) (by omega)
      rw [e4, e5]; exact hk.2.2.2.2 i i0 i1
  · by_cases q : k = s 9
    · subst q
      have e1 : kd (putS s a b c d e) (s 9) = a := by unfold kd putS; rw [if_neg (by omega), if_pos rfl]
      have e2 : co (putS s a b c d e) (s 9) = b := by unfold co putS; rw [if_neg (by omega), if_neg (by omega), if_pos rfl]
      have e3 : ro (putS s a b c d e) (s 9) = c := by unfold ro putS; rw [if_neg (by omega), if_neg (by omega), if_neg (by omega), if_pos rfl]
      have e4 : va (putS s a b c d e) (s 9) = d := by unfold va putS; rw [if_neg (by omega), if_neg (by omega), if_neg (by omega), if_neg (by omega), if_pos rfl]
      have e5 : le' (putS s a b c d e) (s 9) = e := by unfold le' putS; rw [if_neg (by omega), if_neg (by omega), if_neg (by omega), if_neg (by omega), if_neg (by omega), if_pos rfl]
      rw [e1, e2, e3, e4, e5]
      exact ⟨ha, hb, hc, hdd, he⟩
    · have hs := hd.sign k k0 (by omega)
      have e1 : kd (putS s a b c d e) k = kd s k := eq _ (by omega) (by omega)
      have e2 : co (putS s a b c d e) k = co s k := eq _ (by omega) (by omega)
      have e3 : ro (putS s a b c d e) k = ro s k := eq _ (by omega) (by omega)
      have e4 : va (putS s a b c d e) k = va s k := eq _ (by omega) (by omega)
      have e5 : le' (putS s a b c d e) k = le' s k := eq _ (by omega) (by omega)
      rw [e1, e2, e3, e4, e5]; exact hs
/-- changes below the signs: signs stay -/
theorem Sg.low {σ : St} {b : Nat} {s t : Rw} (h : Sg σ b s) (hn : 0 ≤ s 9) (e9 : t 9 = s 9) (e : ∀ i : Int, 111 ≤ i → t i = s i) : Sg σ b t := by
  unfold Sg
  rw [e9]
  refine ⟨h.1, fun k k0 k1 => ?_⟩
  have e1 : kd t k = kd s k := e _ (by omega)
  have e2 : co t k = co s k := e _ (by omega)
  have e3 : ro t k = ro s k := e _ (by omega)
  have e4 : va t k = va s k := e _ (by omega)
  have e5 : le' t k = le' s k := e _ (by omega)
  rw [e1, e2, e3, e4, e5]; exact h.2 k k0 k1
theorem dropS_n (s : Rw) (k : Int) : dropS s k 9 = s 9 - 1 := rfl
theorem dropS_lo {s : Rw} {k : Int} (h0 : 0 ≤ k) : ∀ i : Int, i ≠ 9 → i < 111 → dropS s k i = s i := fun i h1 h2 => by
  unfold dropS; rw [if_neg h1, if_neg (by omega)]
theorem dropS_s {s : Rw} {p : Int} (h0 : 0 ≤ p) {k : Int} (k0 : 0 ≤ k) (k1 : k < s 9 - 1) {j : Int} (j0 : 0 ≤ j) (j1 : j < 5) : dropS s p (111 + 5 * k + j) = s (111 + 5 * (if p ≤ k then k + 1 else k) + j) := by
  unfold dropS
  rw [if_neg (by omega)]
  by_cases q : p ≤ k
  · rw [if_pos (by omega), if_pos q]; congr 1; omega
  · rw [if_neg (by omega), if_neg q]
theorem dropS_g {s : Rw} {p : Int} (h0 : 0 ≤ p) {k : Int} (k0 : 0 ≤ k) (k1 : k < s 9 - 1) : kd (dropS s p) k = kd s (if p ≤ k then k + 1 else k) ∧ co (dropS s p) k = co s (if p ≤ k then k + 1 else k) ∧ ro (dropS s p) k = ro s (if p ≤ k then k + 1 else k) ∧ va (dropS s p) k = va s (if p ≤ k then k + 1 else k) ∧ le' (dropS s p) k = le' s (if p ≤ k then k + 1 else k) := by
  refine ⟨?_, dropS_s h0 k0 k1 (by decide) (by decide), dropS_s h0 k0 k1 (by decide) (by decide), dropS_s h0 k0 k1 (by decide) (by decide), dropS_s h0 k0 k1 (by decide) (by decide)⟩
  have := dropS_s (s := s) h0 k0 k1 (j := 0) (by decide) (by decide)
  simp only [Int.add_zero] at this
  exact this
theorem Dm.drop {s : Rw} (hd : Dm s) {p : Int} (h0 : 0 ≤ p) (h1 : p < s 9) : Dm (dropS s p) := by
  have n0 := hd.n
  have eq := dropS_lo (s := s) h0
  unfold Dm
  rw [dropS_n]
  simp only [eq 0 (by decide) (by omega), eq 1 (by decide) (by omega), eq 2 (by decide) (by omega), eq 3 (by decide) (by omega), eq 4 (by decide) (by omega), eq 5 (by decide) (by omega), eq 6 (by decide) (by omega), eq 7 (by decide) (by omega), eq 8 (by decide) (by omega)]
  refine ⟨hd.set.1, hd.set.2.1, hd.set.2.2.1, hd.set.2.2.2, hd.win.1, hd.win.2.1, hd.win.2.2.1, hd.win.2.2.2.1, hd.win.2.2.2.2, by omega, fun g g0 g1 => ?_, fun k k0 k1 => ?_, fun k k0 k1 => ?_⟩
  · rw [eq _ (by omega) (by omega)]; exact hd.way g g0 g1
  · have hk := hd.kind k k0 k1
    have e1 : rk (dropS s p) k = rk s k := eq _ (by omega) (by omega)
    have e2 : gp (dropS s p) k = gp s k := eq _ (by omega) (by omega)
    have e3 : nl (dropS s p) k = nl s k := eq _ (by omega) (by omega)
    rw [e1, e2, e3]
    refine ⟨hk.1, hk.2.1, hk.2.2.1, fun i i0 i1 => ?_, fun i i0 i1 => ?_⟩
    · have e4 : lm (dropS s p) k i = lm s k i := eq _ (by omega) (by omega)
      rw [e4]; exact hk.2.2.2.1 i i0 i1
    · have e4 : lm (dropS s p) k i = lm s k i := eq _ (by omega) (by omega)
      have e5 : lm (dropS s p) k (i + 1) = lm s k (i + 1) := eq _ (by omega) (by omega)
      rw [e4, e5]; exact hk.2.2.2.2 i i0 i1
  · have e := dropS_g (s := s) h0 k0 k1
    rw [e.1, e.2.1, e.2.2.1, e.2.2.2.1, e.2.2.2.2]
    by_cases q : p ≤ k
    · rw [if_pos q]; exact hd.sign (k + 1) (by omega) (by omega)
    · rw [if_neg q]; exact hd.sign k k0 (by omega)
/-! ===== the class: stores in a map ===== -/
theorem cp_ne {σ : St} {c0 c1 c : Nat} {sp dp n : Int} (h : c ≠ c1) : cpy2 σ c0 sp c1 dp n c = σ c := by funext j; simp [cpy2, h]
theorem cp_in {σ : St} {c0 c1 : Nat} {n i : Int} (h0 : 0 ≤ i) (h1 : i < n) : cpy2 σ c0 0 c1 0 n c1 i = σ c0 i := by simp [cpy2, h0, h1]
/-- a state's signs are taken from another -/
def TS (σ σ' : St) (b q : Nat) : Prop := (∀ c : Nat, c < b ∨ b + 5 < c → σ' c = σ c) ∧ (∀ f : Int, f ≠ 5 → σ' b f = σ b f) ∧ ∀ s : Rw, Sg σ q s → s 9 ≤ 40 → Sg σ' b s
theorem s3_takeSigns {b q : Nat} {σ : St} {K : St → Prop} (hq : q + 5 < b ∨ b + 5 < q) (h : ∀ σ' : St, TS σ σ' b q → K σ') : f_X3_takeSigns b q σ K := by
  intro s1 e1 s2 e2 s3 e3 s4 e4 s5 e5 s6 e6
  refine h _ ⟨fun c hc => ?_, fun f hf => ?_, fun s hs hn => ⟨?_, fun k k0 k1 => ⟨?_, ?_, ?_, ?_, ?_⟩⟩⟩
  all_goals subst e6 e5 e4 e3 e2 e1
  · simp (disch := omega) only [up_c, cp_ne]
  · simp (disch := omega) only [up_i, cp_ne]
  · rw [up_s]; simp (disch := omega) only [cp_ne]; exact hs.1
  · simp (disch := omega) only [up_c, cp_ne, cp_in]; exact (hs.2 k k0 k1).1
  · simp (disch := omega) only [up_c, cp_ne, cp_in]; exact (hs.2 k k0 k1).2.1
  · simp (disch := omega) only [up_c, cp_ne, cp_in]; exact (hs.2 k k0 k1).2.2.1
  · simp (disch := omega) only [up_c, cp_ne, cp_in]; exact (hs.2 k k0 k1).2.2.2.1
  · simp (disch := omega) only [up_c, cp_ne, cp_in]; exact (hs.2 k k0 k1).2.2.2.2
def CF (σ σ' : St) (b q : Nat) : Prop := (∀ c : Nat, c < b ∨ b + 12 < c → σ' c = σ c) ∧ (∀ f : Int, f ≠ 5 → σ' b f = σ b f) ∧ ∀ s : Rw, Dm s → Ms σ q s → Ms σ' b s
theorem s3_copyFrom {b q : Nat} {σ : St} {K : St → Prop} (hq : q + 12 < b ∨ b + 12 < q) (h : ∀ σ' : St, CF σ σ' b q → K σ') : f_X3_copyFrom b q σ K := by
  unfold f_X3_copyFrom
  refine s3_takeSigns (by omega) fun τ ht => ?_
  intro s2 e2 s3 e3 s4 e4 s5 e5 s6 e6 s7 e7 s8 e8
  obtain ⟨t1, t2, t3⟩ := ht
  refine h _ ⟨fun c hc => ?_, fun f hf => ?_, fun s hd hs => ?_⟩
  · subst e8 e7 e6 e5 e4 e3 e2
    simp (disch := omega) only [cp_ne]; exact t1 c (by omega)
  · subst e8 e7 e6 e5 e4 e3 e2
    simp (disch := omega) only [cp_ne]; exact t2 f hf
  · have g : Sg s8 b s := (t3 s hs.sg hd.n.2).go (fun c h1 h2 => by subst e8 e7 e6 e5 e4 e3 e2; simp (disch := omega) only [cp_ne])
    subst e8 e7 e6 e5 e4 e3 e2
    refine ⟨g.1, g.2, fun k k0 k1 => ?_, fun j j0 j1 => ?_, fun j j0 j1 => ?_, fun j j0 j1 => ?_⟩
    · have hk := hd.kind k k0 k1
      have m := hs.kind k k0 k1
      refine ⟨?_, ?_, ?_, fun i i0 i1 => ?_⟩
      all_goals simp (disch := omega) only [cp_ne, cp_in]
      · rw [t1 _ (by omega)]; exact m.1
      · rw [t1 _ (by omega)]; exact m.2.1
      · rw [t1 _ (by omega)]; exact m.2.2.1
      · rw [t1 _ (by omega)]; exact m.2.2.2 i i0 i1
    · simp (disch := omega) only [cp_ne, cp_in]; rw [t1 _ (by omega)]; exact hs.way j j0 j1
    · simp (disch := omega) only [cp_ne, cp_in]; rw [t1 _ (by omega)]; exact hs.win j j0 j1
    · simp (disch := omega) only [cp_ne, cp_in]; rw [t1 _ (by omega)]; exact hs.set j j0 j1
/-- a sign is put behind the others -/
def PS (σ σ' : St) (b : Nat) : Prop := (∀ c : Nat, c < b ∨ b + 5 < c → σ' c = σ c) ∧ ∀ f : Int, f ≠ 5 → σ' b f = σ b f
theorem s3_putSign {b : Nat} {p1 p2 p3 p4 p5 : Int} {s : Rw} {σ : St} {K : St → Prop} (hs : Sg σ b s) (h0 : 0 ≤ s 9) (h1 : s 9 < 40) (h : ∀ σ' : St, PS σ σ' b → Sg σ' b (putS s p1 p2 p3 p4 p5) → K σ') : f_X3_putSign b p1 p2 p3 p4 p5 σ K := by
  unfold f_X3_putSign
  rw [hs.1]
  refine ⟨⟨by omega, by omega⟩, fun q => by omega, fun _ => ⟨⟨by omega, by omega⟩, fun _ => ⟨⟨h0, h1⟩, ?_⟩, fun q => by omega⟩⟩
  intro s1 e1
  have a1 : s1 b 5 = s 9 := by rw [e1, up_c (by omega)]; exact hs.1
  refine ⟨by omega, ?_⟩
  intro s2 e2
  have a2 : s2 b 5 = s 9 := by rw [e2, up_c (by omega)]; exact a1
  refine ⟨by omega, ?_⟩
  intro s3 e3
  have a3 : s3 b 5 = s 9 := by rw [e3, up_c (by omega)]; exact a2
  refine ⟨by omega, ?_⟩
  intro s4 e4
  have a4 : s4 b 5 = s 9 := by rw [e4, up_c (by omega)]; exact a3
  refine ⟨by omega, ?_⟩
  intro s5 e5
  have a5 : s5 b 5 = s 9 := by rw [e5, up_c (by omega)]; exact a4
  intro s6 e6
  rw [a5] at e6
  rw [a4] at e5
  rw [a3] at e4
  rw [a2] at e3
  rw [a1] at e2
  refine h _ ⟨fun c hc => ?_, fun f hf => ?_⟩ ⟨?_, fun k k0 k1 => ?_⟩
  · subst e6 e5 e4 e3 e2 e1
    simp (disch := omega) only [up_c]
  · subst e6 e5 e4 e3 e2 e1
    simp (disch := omega) only [up_c, up_i]
  · rw [e6, up_s]; rfl
  · have k1 : k < s 9 + 1 := k1
    subst e6 e5 e4 e3 e2 e1
    by_cases q : k = s 9
    · subst q
      unfold kd co ro va le' putS
      simp (disch := omega) only [up_c, up_s]
      refine ⟨?_, ?_, ?_, ?_, ?_⟩
      · rw [if_neg (by omega), if_pos trivial]
      · rw [if_neg (by omega), if_neg (by omega), if_pos trivial]
      · rw [if_neg (by omega), if_neg (by omega), if_neg (by omega), if_pos trivial]
      · rw [if_neg (by omega), if_neg (by omega), if_neg (by omega), if_neg (by omega), if_pos trivial]
      · rw [if_neg (by omega), if_neg (by omega), if_neg (by omega), if_neg (by omega), if_neg (by omega), if_pos trivial]
    · have m := hs.2 k k0 (by omega)
      simp (disch := omega) only [up_c, up_i]
      unfold kd co ro va le' at *
      unfold putS
      simp (disch := omega) only [if_neg]
      exact m
theorem s3_dropSign {b : Nat} {p : Int} {s : Rw} {σ : St} {K : St → Prop} (hs : Sg σ b s) (hn : s 9 ≤ 40) (h0 : 0 ≤ p) (h1 : p < s 9) (h : ∀ σ' : St, PS σ σ' b → Sg σ' b (dropS s p) → K σ') : f_X3_dropSign b p σ K := by
  unfold f_X3_dropSign
  rw [hs.1]
  refine ⟨⟨by omega, by omega⟩, fun q => by omega, fun _ => ⟨⟨by omega, by omega⟩, ⟨by omega, by omega⟩, fun _ => ?_, fun q => by omega⟩⟩
  refine wl1s_inv (fun i τ => (p ≤ i ∧ i < s 9) ∧ PS σ τ b ∧ τ b 5 = s 9 ∧ (∀ k : Int, 0 ≤ k → k < i → τ (b + 1) k = kd (dropS s p) k ∧ τ (b + 2) k = co (dropS s p) k ∧ τ (b + 3) k = ro (dropS s p) k ∧ τ (b + 4) k = va (dropS s p) k ∧ τ (b + 5) k = le' (dropS s p) k) ∧ ∀ k : Int, i ≤ k → k < s 9 → τ (b + 1) k = kd s k ∧ τ (b + 2) k = co s k ∧ τ (b + 3) k = ro s k ∧ τ (b + 4) k = va s k ∧ τ (b + 5) k = le' s k) (fun i τ => (s 9 - i).toNat) ?_ ⟨by omega, ⟨fun _ _ => rfl, fun _ _ => rfl⟩, hs.1, fun k k0 k1 => ?_, fun k k0 k1 => hs.2 k (by omega) k1⟩
  · rintro i τ ag ⟨⟨i0, i1⟩, ⟨f1, f2⟩, hn5, hlo, hhi⟩ hag
    rw [hn5]
    refine ⟨⟨by omega, by omega⟩, ⟨by omega, by omega⟩, fun q => ?_, fun q => ⟨by omega, by omega, ?_⟩⟩
    · intro s3 e3
      refine h _ ⟨fun c hc => ?_, fun f hf => ?_⟩ ⟨by rw [e3, up_s]; rfl, fun k k0 k1 => ?_⟩
      · rw [e3, up_c (by omega)]; exact f1 c hc
      · rw [e3, up_i hf]; exact f2 f hf
      · rw [dropS_n] at k1
        rw [e3]
        simp (disch := omega) only [up_c]
        exact hlo k k0 (by omega)
    · intro s4 e4
      refine ⟨by omega, by omega, ?_⟩
      intro s5 e5
      refine ⟨by omega, by omega, ?_⟩
      intro s6 e6
      refine ⟨by omega, by omega, ?_⟩
      intro s7 e7
      refine ⟨by omega, by omega, ?_⟩
      intro s8 e8
      refine hag _ _ ⟨by omega, ⟨fun c hc => ?_, fun f hf => ?_⟩, ?_, fun k k0 k1 => ?_, fun k k0 k1 => ?_⟩ (by omega)
      all_goals subst e8 e7 e6 e5 e4
      · simp (disch := omega) only [up_c]; exact f1 c hc
      · simp (disch := omega) only [up_c]; exact f2 f hf
      · simp (disch := omega) only [up_c]; exact hn5
      · by_cases q2 : k = i
        · subst q2
          simp (disch := omega) only [up_c, up_s]
          have e := dropS_g (s := s) h0 k0 (by omega : k < s 9 - 1)
          rw [if_pos i0] at e
          rw [e.1, e.2.1, e.2.2.1, e.2.2.2.1, e.2.2.2.2]
          exact hhi (k + 1) (by omega) (by omega)
        · simp (disch := omega) only [up_c, up_i]
          exact hlo k k0 (by omega)
      · simp (disch := omega) only [up_c, up_i]
        exact hhi k (by omega) k1
  · have e := dropS_g (s := s) h0 k0 (by omega : k < s 9 - 1)
    rw [if_neg (by omega)] at e
    rw [e.1, e.2.1, e.2.2.1, e.2.2.2.1, e.2.2.2.2]
    exact hs.2 k k0 (by omega)
