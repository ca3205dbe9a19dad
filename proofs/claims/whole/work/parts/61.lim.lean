/-! ===== limits ===== -/
theorem lm_mono {s : Rw} (hd : Dm s) {k : Int} (k0 : 0 ≤ k) (k1 : k < 12) : ∀ (m : Nat) (i : Int), 0 ≤ i → i + m + 1 < nl s k → lm s k i < lm s k (i + m + 1)
  | 0, i, i0, i1 => by
    rw [show i + ((0 : Nat) : Int) + 1 = i + 1 by omega] at i1 ⊢
    exact (hd.kind k k0 k1).2.2.2.2 i i0 i1
  | m + 1, i, i0, i1 => by
    have h1 := lm_mono hd k0 k1 m i i0 (by omega)
    have h2 := (hd.kind k k0 k1).2.2.2.2 (i + m + 1) (by omega) (by omega)
    rw [show i + ((m + 1 : Nat) : Int) + 1 = i + m + 1 + 1 by omega]
    omega
theorem lm_lt {s : Rw} (hd : Dm s) {k : Int} (k0 : 0 ≤ k) (k1 : k < 12) {i j : Int} (i0 : 0 ≤ i) (ij : i < j) (j1 : j < nl s k) : lm s k i < lm s k j := by
  have := lm_mono hd k0 k1 (j - i - 1).toNat i i0 (by omega)
  rw [show i + (((j - i - 1).toNat : Nat) : Int) + 1 = j by omega] at this
  exact this
/-- where a limit stands, or would stand -/
def PLC (s : Rw) (k l q : Int) : Prop := (0 ≤ q ∧ q ≤ nl s k) ∧ (∀ i : Int, 0 ≤ i → i < q → lm s k i < l) ∧ (q < nl s k → l ≤ lm s k q)
theorem plc_ex {s : Rw} (hd : Dm s) {k l : Int} (k0 : 0 ≤ k) (k1 : k < 12) : ∃ q, PLC s k l q := by
  have hk := (hd.kind k k0 k1).2.2.1
  have key : ∀ m : Nat, (m : Int) ≤ nl s k → (∃ q, PLC s k l q) ∨ ∀ i : Int, 0 ≤ i → i < m → lm s k i < l := by
    intro m
    induction m with
    | zero => intro _; exact Or.inr fun i i0 i1 => by omega
    | succ m ih =>
      intro hm
      rcases ih (by omega) with h | h
      · exact Or.inl h
      · by_cases q : lm s k m < l
        · refine Or.inr fun i i0 i1 => ?_
          by_cases e : i = m
          · rw [e]; exact q
          · exact h i i0 (by omega)
        · exact Or.inl ⟨m, ⟨by omega, by omega⟩, h, fun _ => by omega⟩
  rcases key (nl s k).toNat (by omega) with h | h
  · exact h
  · exact ⟨nl s k, ⟨by omega, by omega⟩, fun i i0 i1 => h i i0 (by omega), fun z => by omega⟩
theorem plc_has {s : Rw} (hd : Dm s) {k l q : Int} (k0 : 0 ≤ k) (k1 : k < 12) (h : PLC s k l q) : hasL s k l = true ↔ q < nl s k ∧ lm s k q = l := by
  rw [hasL_iff hd k0 k1]
  constructor
  · rintro ⟨i, i0, i1, e⟩
    have a : q ≤ i := by
      refine Int.not_lt.mp fun z => ?_
      have := h.2.1 i i0 z
      omega
    by_cases e2 : i = q
    · rw [← e2]; exact ⟨i1, e⟩
    · have h2 := lm_lt hd k0 k1 h.1.1 (by omega : q < i) i1
      have := h.2.2 (by omega)
      omega
  · rintro ⟨a, e⟩; exact ⟨q, h.1.1, a, e⟩
def limN (s : Rw) (k l : Int) : Int := if hasL s k l = true then nl s k - 1 else nl s k + 1
def limL (s : Rw) (k l q i : Int) : Int := if hasL s k l = true then (if i < q then lm s k i else lm s k (i + 1)) else if i < q then lm s k i else if i = q then l else lm s k (i - 1)
def limT (s : Rw) (k l q : Int) : Rw := fun i => if i = 15 + 8 * k + 2 then limN s k l else if 15 + 8 * k + 3 ≤ i ∧ i < 15 + 8 * k + 3 + limN s k l then limL s k l q (i - (15 + 8 * k + 3)) else s i
theorem limN_bd {s : Rw} (hd : Dm s) {k l q : Int} (k0 : 0 ≤ k) (k1 : k < 12) (h : PLC s k l q) (h5 : hasL s k l = true ∨ nl s k < 5) : 0 ≤ limN s k l ∧ limN s k l ≤ 5 := by
  have hk := (hd.kind k k0 k1).2.2.1
  unfold limN
  split
  · rename_i z
    have := (plc_has hd k0 k1 h).mp z
    have := h.1
    omega
  · rename_i z
    rcases h5 with e | e
    · exact absurd e z
    · omega
theorem limT_o {s : Rw} {k l q i : Int} (h0 : 0 ≤ limN s k l ∧ limN s k l ≤ 5) (h : i < 15 + 8 * k + 2 ∨ 15 + 8 * k + 7 < i) : limT s k l q i = s i := by
  unfold limT
  rw [if_neg (by omega), if_neg (by omega)]
theorem limT_n {s : Rw} {k l q : Int} : nl (limT s k l q) k = limN s k l := by
  unfold nl limT
  rw [if_pos rfl]
theorem limT_l {s : Rw} {k l q i : Int} (i0 : 0 ≤ i) (i1 : i < limN s k l) : lm (limT s k l q) k i = limL s k l q i := by
  unfold lm limT
  rw [if_neg (by omega), if_pos (by omega), show 15 + 8 * k + 3 + i - (15 + 8 * k + 3) = i by omega]
theorem limL_ok {s : Rw} (hd : Dm s) {k l q : Int} (k0 : 0 ≤ k) (k1 : k < 12) (hl : 1 ≤ l ∧ l ≤ 9999) (h : PLC s k l q) : (∀ i : Int, 0 ≤ i → i < limN s k l → 1 ≤ limL s k l q i ∧ limL s k l q i ≤ 9999) ∧ ∀ i : Int, 0 ≤ i → i + 1 < limN s k l → limL s k l q i < limL s k l q (i + 1) := by
  have hk := (hd.kind k k0 k1).2.2
  obtain ⟨⟨q0, q1⟩, hlo, hhi⟩ := h
  unfold limN limL
  by_cases z : hasL s k l = true
  · rw [if_pos z]
    simp only [if_pos z]
    refine ⟨fun i i0 i1 => ?_, fun i i0 i1 => ?_⟩
    · split
      · exact hk.2.1 i i0 (by omega)
      · exact hk.2.1 (i + 1) (by omega) (by omega)
    · by_cases c : i + 1 < q
      · rw [if_pos c, if_pos (by omega)]; exact lm_lt hd k0 k1 i0 (by omega) (by omega)
      · rw [if_neg c]
        split
        · exact lm_lt hd k0 k1 i0 (by omega) (by omega)
        · exact lm_lt hd k0 k1 (by omega) (by omega) (by omega)
  · have hp := plc_has hd k0 k1 (⟨⟨q0, q1⟩, hlo, hhi⟩ : PLC s k l q)
    have hq : q < nl s k → l < lm s k q := fun y => by
      have a := hhi y
      by_cases e : lm s k q = l
      · exact absurd (hp.mpr ⟨y, e⟩) z
      · omega
    rw [if_neg z]
    simp only [if_neg z]
    refine ⟨fun i i0 i1 => ?_, fun i i0 i1 => ?_⟩
    · split
      · exact hk.2.1 i i0 (by omega)
      · split
        · exact hl
        · exact hk.2.1 (i - 1) (by omega) (by omega)
    · by_cases c : i + 1 < q
      · rw [if_pos c, if_pos (by omega)]; exact lm_lt hd k0 k1 i0 (by omega) (by omega)
      · rw [if_neg c]
        by_cases c2 : i + 1 = q
        · rw [if_pos c2, if_pos (by omega)]; exact hlo i i0 (by omega)
        · rw [if_neg c2, if_neg (by omega)]
          by_cases c3 : i = q
          · rw [if_pos c3, show i + 1 - 1 = q by omega]; exact hq (by omega)
          · rw [if_neg c3, show i + 1 - 1 = i by omega]; exact lm_lt hd k0 k1 (by omega) (by omega) (by omega)
theorem Dm.lim {s : Rw} (hd : Dm s) {k l q : Int} (k0 : 0 ≤ k) (k1 : k < 12) (hl : 1 ≤ l ∧ l ≤ 9999) (h : PLC s k l q) (h5 : hasL s k l = true ∨ nl s k < 5) : Dm (limT s k l q) := by
  have hN := limN_bd hd k0 k1 h h5
  have hL := limL_ok hd k0 k1 hl h
  have eq : ∀ i : Int, i < 15 + 8 * k + 2 ∨ 15 + 8 * k + 7 < i → limT s k l q i = s i := fun i hi => limT_o hN hi
  have n0 := hd.n
  unfold Dm
  simp only [eq 0 (by omega), eq 1 (by omega), eq 2 (by omega), eq 3 (by omega), eq 4 (by omega), eq 5 (by omega), eq 6 (by omega), eq 7 (by omega), eq 8 (by omega), eq 9 (by omega)]
  refine ⟨hd.set.1, hd.set.2.1, hd.set.2.2.1, hd.set.2.2.2, hd.win.1, hd.win.2.1, hd.win.2.2.1, hd.win.2.2.2.1, hd.win.2.2.2.2, n0, fun g g0 g1 => ?_, fun j j0 j1 => ?_, fun j j0 j1 => ?_⟩
  · rw [eq _ (by omega)]; exact hd.way g g0 g1
  · have hk := hd.kind j j0 j1
    have e1 : rk (limT s k l q) j = rk s j := eq _ (by omega)
    have e2 : gp (limT s k l q) j = gp s j := eq _ (by omega)
    rw [e1, e2]
    by_cases e : j = k
    · subst e
      rw [limT_n]
      refine ⟨hk.1, hk.2.1, hN, fun i i0 i1 => ?_, fun i i0 i1 => ?_⟩
      · rw [limT_l i0 i1]; exact hL.1 i i0 i1
      · rw [limT_l i0 (by omega), limT_l (by omega) i1]; exact hL.2 i i0 i1
    · have e3 : nl (limT s k l q) j = nl s j := eq _ (by omega)
      rw [e3]
      refine ⟨hk.1, hk.2.1, hk.2.2.1, fun i i0 i1 => ?_, fun i i0 i1 => ?_⟩
      · have e4 : lm (limT s k l q) j i = lm s j i := eq _ (by omega)
        rw [e4]; exact hk.2.2.2.1 i i0 i1
      · have e4 : lm (limT s k l q) j i = lm s j i := eq _ (by omega)
        have e5 : lm (limT s k l q) j (i + 1) = lm s j (i + 1) := eq _ (by omega)
        rw [e4, e5]; exact hk.2.2.2.2 i i0 i1
  · have hs := hd.sign j j0 j1
    have e1 : kd (limT s k l q) j = kd s j := eq _ (by omega)
    have e2 : co (limT s k l q) j = co s j := eq _ (by omega)
    have e3 : ro (limT s k l q) j = ro s j := eq _ (by omega)
    have e4 : va (limT s k l q) j = va s j := eq _ (by omega)
    have e5 : le' (limT s k l q) j = le' s j := eq _ (by omega)
    rw [e1, e2, e3, e4, e5]; exact hs
theorem Ms.lim {σ τ : St} {b : Nat} {s : Rw} {k l q : Int} (hd : Dm s) (hm : Ms σ b s) (k0 : 0 ≤ k) (k1 : k < 12) (h : PLC s k l q) (h5 : hasL s k l = true ∨ nl s k < 5) (hc : ∀ c : Nat, c ≠ b + 8 → c ≠ b + 9 → τ c = σ c) (hn : ∀ j : Int, τ (b + 8) j = if j = k then limN s k l else σ (b + 8) j) (hl : ∀ i : Int, 0 ≤ i → i < limN s k l → τ (b + 9) (k * 5 + i) = limL s k l q i) (ho : ∀ i : Int, i < k * 5 ∨ k * 5 + 5 ≤ i → τ (b + 9) i = σ (b + 9) i) : Ms τ b (limT s k l q) := by
  have hN := limN_bd hd k0 k1 h h5
  have eq : ∀ i : Int, i < 15 + 8 * k + 2 ∨ 15 + 8 * k + 7 < i → limT s k l q i = s i := fun i hi => limT_o hN hi
  refine hm.chg (eq 9 (by omega)) (fun i hi => eq i (by omega)) (fun c g1 g2 => hc c (by omega) (by omega)) (fun j j0 j1 => ?_) (fun g g0 g1 => ?_) (fun j j0 j1 => ?_) (fun j j0 j1 => ?_)
  · have m := hm.kind j j0 j1
    have hk := (hd.kind j j0 j1).2.2.1
    have e1 : rk (limT s k l q) j = rk s j := eq _ (by omega)
    have e2 : gp (limT s k l q) j = gp s j := eq _ (by omega)
    rw [e1, e2, hc _ (by omega) (by omega), hc _ (by omega) (by omega), hn j]
    by_cases e : j = k
    · subst e
      rw [limT_n, if_pos rfl]
      exact ⟨m.1, m.2.1, rfl, fun i i0 i1 => by rw [limT_l i0 i1]; exact hl i i0 i1⟩
    · have e3 : nl (limT s k l q) j = nl s j := eq _ (by omega)
      rw [e3, if_neg e]
      refine ⟨m.1, m.2.1, m.2.2.1, fun i i0 i1 => ?_⟩
      have e4 : lm (limT s k l q) j i = lm s j i := eq _ (by omega)
      rw [e4, ho _ (by omega)]; exact m.2.2.2 i i0 i1
  · rw [hc _ (by omega) (by omega), eq _ (by omega)]; exact hm.way g g0 g1
  · rw [hc _ (by omega) (by omega), eq _ (by omega)]; exact hm.win j j0 j1
  · rw [hc _ (by omega) (by omega), eq _ (by omega)]; exact hm.set j j0 j1
theorem s3_putLimit {b : Nat} {s : Rw} {k l q : Int} {σ : St} {K : St → Prop} (hd : Dm s) (hm : Ms σ b s) (k0 : 0 ≤ k) (k1 : k < 12) (rl : Rg l) (hp : PLC s k l q) (hno : hasL s k l = false) (h5 : nl s k < 5)
    (h : ∀ σ' : St, (∀ c : Nat, c ≠ b + 8 → c ≠ b + 9 → σ' c = σ c) → Ms σ' b (limT s k l q) → K σ') : f_X3_putLimit b k l σ K := by
  have hk := (hd.kind k k0 k1).2.2
  have mk := hm.kind k k0 k1
  have hN : limN s k l = nl s k + 1 := by unfold limN; rw [hno]; rfl
  have hp' := plc_has hd k0 k1 hp
  have hq : q < nl s k → l < lm s k q := fun y => by
    have a := hp.2.2 y
    by_cases e : lm s k q = l
    · rw [hp'.mpr ⟨y, e⟩] at hno; exact absurd hno (by decide)
    · omega
  unfold f_X3_putLimit
  rw [mk.2.2.1]
  refine ⟨⟨k0, k1⟩, ⟨by omega, by omega⟩, fun _ => ?_, fun z => by omega⟩
  intro x1 e1
  subst e1
  refine ⟨⟨k0, k1⟩, ?_⟩
  intro x2 e2
  subst e2
  refine wl1s_inv (fun x τ => (k * 5 + q ≤ x ∧ x ≤ k * 5 + nl s k) ∧ (∀ c : Nat, c ≠ b + 9 → τ c = σ c) ∧ (∀ i : Int, i < k * 5 ∨ k * 5 + 5 ≤ i → τ (b + 9) i = σ (b + 9) i) ∧ (∀ i : Int, 0 ≤ i → k * 5 + i < x → τ (b + 9) (k * 5 + i) = lm s k i) ∧ ∀ i : Int, x < k * 5 + i → i < nl s k + 1 → τ (b + 9) (k * 5 + i) = lm s k (i - 1)) (fun x _ => (x - k * 5).toNat) ?_ ⟨by have := hp.1; omega, fun _ _ => rfl, fun _ _ => rfl, fun i i0 i1 => mk.2.2.2 i i0 (by omega), fun i i0 i1 => by omega⟩
  rintro x τ ag ⟨hx, hc, ho, hlo, hhi⟩ hag
  have hq0 := hp.1
  refine wj0_intro (x = k * 5 + q) (fun ex => ⟨by omega, ?_⟩) (fun J hJ => ⟨⟨by omega, by omega⟩, ⟨by omega, by omega⟩, fun z => hJ (by omega), fun z => ⟨by omega, ?_⟩⟩)
  · subst ex
    intro s7 e7
    refine ⟨⟨k0, k1⟩, ⟨k0, k1⟩, ?_⟩
    intro s8 e8
    have e9 : s7 (b + 8) k = nl s k := by rw [e7, up_c (by omega), hc _ (by omega)]; exact mk.2.2.1
    rw [e9] at e8
    refine h _ (fun c g1 g2 => by rw [e8, up_c g1, e7, up_c g2]; exact hc c g2) (hm.lim hd k0 k1 hp (Or.inr h5) (fun c g1 g2 => by rw [e8, up_c g1, e7, up_c g2]; exact hc c g2) (fun j => ?_) (fun i i0 i1 => ?_) (fun i hi => ?_))
    · rw [e8, up_if, hN, e7, up_c (by omega), hc _ (by omega)]
    · rw [hN] at i1
      rw [e8, up_c (by omega), e7]
      unfold limL
      rw [if_neg (by rw [hno]; decide)]
      by_cases c1 : i < q
      · rw [if_pos c1, up_i (by omega)]; exact hlo i i0 (by omega)
      · rw [if_neg c1]
        by_cases c2 : i = q
        · rw [if_pos c2, c2, up_s]
        · rw [if_neg c2, up_i (by omega)]; exact hhi i (by omega) i1
    · rw [e8, up_c (by omega), e7, up_i (by omega)]; exact ho i hi
  · have ei : τ (b + 9) (x - 1) = lm s k (x - 1 - k * 5) := by
      have := hlo (x - 1 - k * 5) (by omega) (by omega)
      rw [show k * 5 + (x - 1 - k * 5) = x - 1 by omega] at this
      exact this
    have hb := hk.2.1 (x - 1 - k * 5) (by omega) (by omega)
    rw [ei]
    refine ⟨⟨by omega, by omega⟩, rl, fun z2 => hJ ?_, fun z2 => ⟨by omega, by omega, ?_⟩⟩
    · refine Classical.byContradiction fun z3 => ?_
      have a1 := hq (by omega)
      by_cases e : x - 1 - k * 5 = q
      · rw [e] at z2; omega
      · have := lm_lt hd k0 k1 hq0.1 (by omega : q < x - 1 - k * 5) (by omega)
        omega
    · intro s6 e6
      refine hag _ _ ⟨?_, fun c g => by rw [e6, up_c g]; exact hc c g, fun i hi => by rw [e6, up_i (by omega)]; exact ho i hi, fun i i0 i1 => by rw [e6, up_i (by omega)]; exact hlo i i0 (by omega), fun i i0 i1 => ?_⟩ (by omega)
      · refine ⟨Int.not_lt.mp fun z3 => ?_, by omega⟩
        have e : x = k * 5 + q := by omega
        have := hp.2.1 (x - 1 - k * 5) (by omega) (by omega)
        omega
      · rw [e6]
        by_cases e : k * 5 + i = x
        · rw [e, up_s, show x - 1 - k * 5 = i - 1 by omega]
        · rw [up_i e]; exact hhi i (by omega) i1
theorem s3_dropLimit {b : Nat} {s : Rw} {k l q : Int} {σ : St} {K : St → Prop} (hd : Dm s) (hm : Ms σ b s) (k0 : 0 ≤ k) (k1 : k < 12) (rl : Rg l) (hp : PLC s k l q) (hyes : hasL s k l = true)
    (h : ∀ σ' : St, (∀ c : Nat, c ≠ b + 8 → c ≠ b + 9 → σ' c = σ c) → Ms σ' b (limT s k l q) → K σ') : f_X3_dropLimit b k l σ K := by
  have hk := (hd.kind k k0 k1).2.2
  have mk := hm.kind k k0 k1
  have hN : limN s k l = nl s k - 1 := by unfold limN; rw [if_pos hyes]
  have hp' := (plc_has hd k0 k1 hp).mp hyes
  have hq0 := hp.1
  unfold f_X3_dropLimit
  intro x1 e1
  subst e1
  refine wl2s_inv (fun x i τ => (0 ≤ i ∧ i ≤ nl s k) ∧ x = (if i ≤ q then i else i - 1) ∧ (∀ c : Nat, c ≠ b + 9 → τ c = σ c) ∧ (∀ j : Int, j < k * 5 ∨ k * 5 + 5 ≤ j → τ (b + 9) j = σ (b + 9) j) ∧ (∀ j : Int, 0 ≤ j → j < x → τ (b + 9) (k * 5 + j) = if j < q then lm s k j else lm s k (j + 1)) ∧ ∀ j : Int, i ≤ j → j < nl s k → τ (b + 9) (k * 5 + j) = lm s k j) (fun _ i _ => (nl s k - i).toNat) ?_ ⟨by omega, by rw [if_pos (by omega)], fun _ _ => rfl, fun _ _ => rfl, fun j j0 j1 => by omega, fun j j0 j1 => mk.2.2.2 j j0 j1⟩
  rintro x i τ ag ⟨hi, hx, hc, ho, hlo, hhi⟩ hag
  have en : τ (b + 8) k = nl s k := by rw [hc _ (by omega)]; exact mk.2.2.1
  rw [en]
  refine ⟨⟨k0, k1⟩, ⟨by omega, by omega⟩, ⟨by omega, by omega⟩, fun z => ⟨⟨k0, k1⟩, ?_⟩, fun z => ⟨by omega, ?_⟩⟩
  · intro s5 e5
    rw [if_neg (by omega)] at hx
    refine h _ (fun c g1 g2 => by rw [e5, up_c g1]; exact hc c g2) (hm.lim hd k0 k1 hp (Or.inl hyes) (fun c g1 g2 => by rw [e5, up_c g1]; exact hc c g2) (fun j => ?_) (fun j j0 j1 => ?_) (fun j hj => ?_))
    · rw [e5, up_if, hN, hc _ (by omega), hx, show i - 1 = nl s k - 1 by omega]
    · rw [hN] at j1
      rw [e5, up_c (by omega)]
      unfold limL
      rw [if_pos hyes]
      exact hlo j j0 (by omega)
    · rw [e5, up_c (by omega)]; exact ho j hj
  · intro x6 e6
    rw [hhi i (by omega) (by omega)] at e6
    have hb := hk.2.1 i hi.1 (by omega)
    subst e6
    refine ⟨⟨by omega, by omega⟩, rl, fun z2 => ?_, fun z2 => ⟨by split at hx <;> omega, ?_⟩⟩
    · have eq : i = q := by
        refine Classical.byContradiction fun z3 => ?_
        by_cases c : i < q
        · have := hp.2.1 i hi.1 c; omega
        · have := lm_lt hd k0 k1 hq0.1 (by omega : q < i) (by omega); omega
      rw [if_pos (by omega)] at hx
      exact hag _ _ _ ⟨by omega, by rw [if_neg (by omega)]; omega, hc, ho, hlo, fun j j0 j1 => hhi j (by omega) j1⟩ (by omega)
    · have nq : i ≠ q := fun e => z2 (by rw [e]; exact hp'.2)
      intro s7 e7
      have hx2 : 0 ≤ x ∧ x ≤ i := by split at hx <;> omega
      refine hag _ _ _ ⟨by omega, ?_, fun c g => by rw [e7, up_c g]; exact hc c g, fun j hj => by rw [e7, up_i (by omega)]; exact ho j hj, fun j j0 j1 => ?_, fun j j0 j1 => by rw [e7, up_i (by omega)]; exact hhi j (by omega) j1⟩ (by omega)
      · by_cases c : i ≤ q
        · rw [if_pos c] at hx; rw [if_pos (by omega)]; omega
        · rw [if_neg c] at hx; rw [if_neg (by omega)]; omega
      · rw [e7]
        by_cases e : j = x
        · subst e
          rw [up_s]
          by_cases c : i ≤ q
          · rw [if_pos c] at hx; rw [if_pos (by omega), hx]
          · rw [if_neg c] at hx; rw [if_neg (by omega), hx, show i - 1 + 1 = i by omega]
        · rw [up_i (by omega)]; exact hlo j j0 (by omega)
theorem o_limit {k l : Int} {σ : St} {Kx : Int → St → Prop} {J : St → Prop} (ra : Rg k) (rb : Rg l) (hR : REL σ) (hJ : ∀ τ : St, REL τ → J τ) (hK : ∀ (x : Int) (s : St), f_X7_limit k l s (fun y t => TL x y t J) → Kx x s) : f_L_limit k l σ Kx := by
  have hd := hR.d
  have x2 : Kx 2 σ → (2 = 1 → Kx 1 σ) ∧ (2 = 2 → Kx 2 σ) ∧ (2 = 3 → Kx 3 σ) ∧ (2 = 1 ∨ 2 = 2 ∨ 2 = 3) := fun z => ⟨fun t => absurd t (by decide), fun _ => z, fun t => absurd t (by decide), Or.inr (Or.inl rfl)⟩
  have bad2 : 0 ≤ k ∧ k < 12 → ¬ (1 ≤ l ∧ l ≤ 9999) → Kx 2 σ := fun qk q => by
    refine hK _ _ ?_
    unfold f_X7_limit
    exact kind_ok qk (ok_ne (in_no rb ⟨by decide, by decide⟩ ⟨by decide, by decide⟩ q (no_ne (fails_ok hR hJ (by decide)))))
  -- the reference, up to where it knows
  have mod : ∀ (s3 : St) (x : Int), s3 162 = σ 162 → 0 ≤ k ∧ k < 12 → 1 ≤ l ∧ l ≤ 9999 → (∀ q : Int, PLC (σ 162) k l q → (hasL (σ 162) k l = false → nl (σ 162) k = 5 → f_X7_fails 3 s3 (fun y t => TL x y t J)) ∧ (hasL (σ 162) k l = true ∨ nl (σ 162) k < 5 → ∀ ρ : St, (∀ c : Nat, c ≠ 162 → c ≠ 164 → ρ c = s3 c) → (∀ i : Int, 0 ≤ i → i < 311 → ρ 164 i = σ 162 i) → ρ 162 = limT (σ 162) k l q → f_X7_ends (limN (σ 162) k l) ρ (fun y t => TL x y t J))) → f_X7_limit k l s3 (fun y t => TL x y t J) := fun s3 x row qk ql H => by
    have hk := (hd.kind k qk.1 qk.2).2.2
    unfold f_X7_limit
    refine kind_ok qk (ok_ne (in_ok rb ⟨by decide, by decide⟩ ⟨by decide, by decide⟩ ql (ok_ne ?_)))
    intro x3 e3
    have en : s3 162 x3 = nl (σ 162) k := by rw [e3, row]; rfl
    have el : ∀ i : Int, s3 162 (x3 + 1 + i) = lm (σ 162) k i := fun i => by
      rw [e3, row]
      unfold lm
      congr 1
      omega
    refine wl1_inv (fun y => (0 ≤ y ∧ y ≤ nl (σ 162) k) ∧ ∀ i : Int, 0 ≤ i → i < y → lm (σ 162) k i < l) (fun y => (nl (σ 162) k - y).toNat) ?_ ⟨by omega, fun i i0 i1 => by omega⟩
    rintro y ag ⟨hy, hlo⟩ hag
    rw [en]
    refine ⟨by omega, wj0_intro (PLC (σ 162) k l y) (fun hp => ⟨by omega, ?_⟩) (fun Jy hJy => ⟨⟨by omega, by omega⟩, ⟨by omega, by omega⟩, fun z => hJy ⟨hy, hlo, fun z2 => by omega⟩, fun z => ⟨by omega, ?_⟩⟩)⟩
    · have hpl := plc_has hd qk.1 qk.2 hp
      obtain ⟨H3, Hok⟩ := H y hp
      refine wj1_intro (fun z => z = b01 (hasL (σ 162) k l)) (fun x8 h8 => ?_) (fun J1 hJ1 => ?_)
      · refine wj0_intro (hasL (σ 162) k l = true ∨ nl (σ 162) k < 5) (fun h5 => s7_hold fun s12 c12 g12 => ?_) (fun J2 hJ2 => sp4 h8 (fun r => hJ2 (Or.inl r)) (fun r => ⟨by omega, ⟨by omega, by omega⟩, fun z => hJ2 (Or.inr (by omega)), fun z => H3 r (Decidable.not_not.mp z)⟩))
        have hN := limN_bd hd qk.1 qk.2 hp h5
        have r12 : s12 162 = σ 162 := by rw [c12 162 (by decide)]; exact row
        have n12 : s12 162 x3 = nl (σ 162) k := by rw [r12, e3]; rfl
        refine wj0s_intro (fun ρ => (∀ c : Nat, c ≠ 162 → ρ c = s12 c) ∧ ρ 162 = limT (σ 162) k l y) (fun ρ => ?_) (fun J3 hJ3 => sp3 h8 (fun r => ⟨by omega, ?_⟩) (fun r => ?_))
        · rintro ⟨rc, rrow⟩
          have e9 : ρ 162 x3 = limN (σ 162) k l := by rw [rrow, e3]; exact limT_n
          rw [e9]
          exact ⟨by omega, Hok h5 ρ (fun c z1 z2 => by rw [rc c z1]; exact c12 c z2) (fun i i0 i1 => by rw [rc 164 (by decide), g12 i i0 i1, row]) rrow⟩
        · have h5n : nl (σ 162) k < 5 := h5.elim (fun z => by rw [r] at z; exact absurd z (by decide)) id
          have hNv : limN (σ 162) k l = nl (σ 162) k + 1 := by unfold limN; rw [r]; rfl
          intro x14 e14
          rw [n12] at e14
          refine wl1s_inv (fun j ρ => (y ≤ j ∧ j ≤ nl (σ 162) k) ∧ (∀ c : Nat, c ≠ 162 → ρ c = s12 c) ∧ ∀ i : Int, ρ 162 i = if x3 + 1 + j < i ∧ i ≤ x3 + 1 + nl (σ 162) k then σ 162 (i - 1) else σ 162 i) (fun j _ => j.toNat) ?_ ⟨by omega, fun _ _ => rfl, fun i => by rw [if_neg (by omega), r12]⟩
          rintro j ρ ag2 ⟨hj, rc, ri⟩ hag2
          refine ⟨⟨by omega, by omega⟩, ⟨by omega, by omega⟩, fun z => ⟨by omega, ?_⟩, fun z => ⟨by omega, by omega, ?_⟩⟩
          · have ej : j = y := by omega
            subst ej
            intro s17 e17
            refine ⟨by omega, by omega, ?_⟩
            intro s18 e18
            have n17 : s17 162 x3 = nl (σ 162) k := by rw [e17, up_i (by omega), ri, if_neg (by omega)]; exact (congrFun r12 x3).symm.trans n12
            rw [n17] at e18
            refine hJ3 _ ⟨fun c g => by rw [e18, up_c g, e17, up_c g]; exact rc c g, ?_⟩
            funext i
            rw [e18, up_if]
            unfold limT
            rw [← e3, hNv]
            by_cases c1 : i = x3
            · rw [if_pos c1, if_pos (by omega)]
            · rw [if_neg c1, if_neg (by omega), e17, up_if]
              by_cases c2 : 15 + 8 * k + 3 ≤ i ∧ i < 15 + 8 * k + 3 + (nl (σ 162) k + 1)
              · rw [if_pos c2]
                unfold limL lm
                have hh : ∀ u w : Int, (if hasL (σ 162) k l = true then u else w) = w := fun u w => if_neg (by rw [r]; decide)
                rw [hh]
                by_cases c3 : i = x3 + 1 + j
                · rw [if_pos c3, if_neg (by omega), if_pos (by omega)]
                · rw [if_neg c3, ri i]
                  by_cases c4 : x3 + 1 + j < i
                  · rw [if_pos (by omega), if_neg (by omega), if_neg (by omega)]; congr 1; omega
                  · rw [if_neg (by omega), if_pos (by omega)]; congr 1; omega
              · rw [if_neg c2, if_neg (by omega), ri i, if_neg (by omega)]
          · intro s19 e19
            refine hag2 _ _ ⟨by omega, fun c g => by rw [e19, up_c g]; exact rc c g, fun i => ?_⟩ (by omega)
            rw [e19, up_if]
            by_cases c1 : i = x3 + 1 + j
            · rw [if_pos c1, if_pos (by omega), ri (x3 + j), if_neg (by omega)]; congr 1; omega
            · rw [if_neg c1, ri i]
              by_cases c2 : x3 + 1 + j < i ∧ i ≤ x3 + 1 + nl (σ 162) k
              · rw [if_pos c2, if_pos (by omega)]
              · rw [if_neg c2, if_neg (by omega)]
        · have hNv : limN (σ 162) k l = nl (σ 162) k - 1 := by unfold limN; rw [r]; rfl
          have hyn := (hpl.mp r).1
          refine wl1s_inv (fun j ρ => (y ≤ j ∧ j ≤ nl (σ 162) k - 1) ∧ (∀ c : Nat, c ≠ 162 → ρ c = s12 c) ∧ ∀ i : Int, ρ 162 i = if x3 + 1 + y ≤ i ∧ i < x3 + 1 + j then σ 162 (i + 1) else σ 162 i) (fun j _ => (nl (σ 162) k - j).toNat) ?_ ⟨by omega, fun _ _ => rfl, fun i => by rw [if_neg (by omega), r12]⟩
          rintro j ρ ag2 ⟨hj, rc, ri⟩ hag2
          have nρ : ρ 162 x3 = nl (σ 162) k := by rw [ri, if_neg (by omega)]; exact (congrFun r12 x3).symm.trans n12
          rw [nρ]
          refine ⟨by omega, ⟨by omega, by omega⟩, ⟨by omega, by omega⟩, fun z => ⟨by omega, by omega, ?_⟩, fun z => ⟨by omega, by omega, ?_⟩⟩
          · intro s22 e22
            refine hJ3 _ ⟨fun c g => by rw [e22, up_c g]; exact rc c g, ?_⟩
            funext i
            rw [e22, up_if]
            unfold limT
            rw [← e3, hNv]
            by_cases c1 : i = x3
            · rw [if_pos c1, if_pos (by omega)]
            · rw [if_neg c1, if_neg (by omega), ri i]
              by_cases c2 : 15 + 8 * k + 3 ≤ i ∧ i < 15 + 8 * k + 3 + (nl (σ 162) k - 1)
              · rw [if_pos c2]
                unfold limL lm
                rw [if_pos r]
                by_cases c3 : x3 + 1 + y ≤ i
                · rw [if_pos (by omega), if_neg (by omega)]; congr 1; omega
                · rw [if_neg (by omega), if_pos (by omega)]; congr 1; omega
              · rw [if_neg c2, if_neg (by omega)]
          · intro s23 e23
            refine hag2 _ _ ⟨by omega, fun c g => by rw [e23, up_c g]; exact rc c g, fun i => ?_⟩ (by omega)
            rw [e23, up_if]
            by_cases c1 : i = x3 + 1 + j
            · rw [if_pos c1, if_pos (by omega), ri (x3 + 2 + j), if_neg (by omega)]; congr 1; omega
            · rw [if_neg c1, ri i]
              by_cases c2 : x3 + 1 + y ≤ i ∧ i < x3 + 1 + j
              · rw [if_pos c2, if_pos (by omega)]
              · rw [if_neg c2, if_neg (by omega)]
      · have F : ¬ (y < nl (σ 162) k ∧ lm (σ 162) k y = l) → J1 0 := fun z => hJ1 0 (by
          rw [b01_f]
          cases e : hasL (σ 162) k l with
          | false => rfl
          | true => exact absurd (hpl.mp e) z)
        refine wj0_intro (¬ (y < nl (σ 162) k ∧ lm (σ 162) k y = l)) F (fun J2 h2 => ⟨⟨by omega, by omega⟩, ⟨by omega, by omega⟩, fun z => h2 (by omega), fun z => ⟨by omega, ?_⟩⟩)
        have hb := hk.2.1 y hy.1 (by omega)
        rw [el y]
        exact ⟨⟨by omega, by omega⟩, rb, fun z2 => h2 fun t => z2 t.2, fun z2 => hJ1 1 (by rw [b01_t (hpl.mpr ⟨by omega, Decidable.not_not.mp z2⟩)])⟩
    · have hb := hk.2.1 y hy.1 (by omega)
      rw [el y]
      refine ⟨⟨by omega, by omega⟩, rb, fun z2 => hJy ⟨hy, hlo, fun _ => z2⟩, fun z2 => hag _ ⟨by omega, fun i i0 i1 => ?_⟩ (by omega)⟩
      by_cases e : i = y
      · rw [e]; omega
      · exact hlo i i0 (by omega)
  unfold f_L_limit f_X6_limit
  refine s6_demandKind ra (fun qk => ⟨rb, fun z => x2 (bad2 qk (by omega)), fun z1 => ⟨rb, fun z2 => ?_, fun z2 => x2 (bad2 qk (by omega))⟩⟩) (fun q => ⟨fun _ => hK _ _ ?_, fun t => absurd t (by decide), fun t => absurd t (by decide), Or.inl rfl⟩)
  · have ql : 1 ≤ l ∧ l ≤ 9999 := by omega
    have hk := (hd.kind k qk.1 qk.2).2.2
    have mk := hR.m.kind k qk.1 qk.2
    refine s3_hasLimit hd hR.m qk.1 qk.2 rb ?_
    have e9 : σ 9 k = nl (σ 162) k := mk.2.2.1
    have fin : ∀ (τ σ2 : St) (p : Int) (P : Int → Rw) (q : Int), RI σ p P → MI σ p P → CM σ τ (σ 162) p P → PLC (σ 162) k l q → hasL (σ 162) k l = true ∨ nl (σ 162) k < 5 → (∀ c : Nat, c ≠ 1 + 8 → c ≠ 1 + 9 → σ2 c = τ c) → Ms σ2 1 (limT (σ 162) k l q) → Rg (σ2 9 k) ∧ ∀ s3 : St, s3 = up2 σ2 176 0 (σ2 9 k) → Kx 0 s3 := fun τ σ2 p P q hri hmi hcm hp h5 c2 M2 => by
      have hN := limN_bd hd qk.1 qk.2 hp h5
      have hdt := hd.lim qk.1 qk.2 ql hp h5
      have e5 : σ2 9 k = limN (σ 162) k l := ((M2.kind k qk.1 qk.2).2.2.1).trans limT_n
      rw [e5]
      refine ⟨⟨by omega, by omega⟩, fun s3 e3 => hK _ _ ?_⟩
      have C3 : CM σ s3 (limT (σ 162) k l q) p P := by rw [e3]; exact (hcm.ms (fun c z1 _ => c2 c (by omega) (by omega)) M2).u _
      have h176 : s3 176 0 = limN (σ 162) k l := by rw [e3, up_s]
      refine mod s3 0 C3.row qk ql fun q2 hp2 => ⟨fun r n5 => h5.elim (fun z => by rw [r] at z; exact absurd z (by decide)) (fun z => by omega), fun _ ρ rc rg rrow => ?_⟩
      have eq2 : q2 = q := by
        refine Classical.byContradiction fun z => ?_
        by_cases c : q2 < q
        · have h1 := hp.2.1 q2 hp2.1.1 c
          have h2 := hp2.2.2 (by have := hp.1; omega)
          omega
        · have h1 := hp2.2.1 q hp.1.1 (by omega)
          have h2 := hp.2.2 (by have := hp2.1; omega)
          omega
      subst eq2
      exact end_ok hR hdt hri hmi C3 rg rc rrow ⟨by omega, by omega⟩ h176 hJ
    refine wj0_intro (hasL (σ 162) k l = true ∨ nl (σ 162) k < 5) (fun h5 => q_save hR fun τ p P hri hmi hcm => ?_) (fun J0 h0 => b01_tilps (fun r => h0 (Or.inl r)) (fun r => ⟨qk, ?_⟩))
    · obtain ⟨q, hp⟩ := plc_ex hd (l := l) qk.1 qk.2
      refine b01_split (fun r => ?_) (fun r => ?_)
      · have h5n : nl (σ 162) k < 5 := h5.elim (fun z => by rw [r] at z; exact absurd z (by decide)) id
        exact s3_putLimit hd hcm.2.2.2.2 qk.1 qk.2 rb hp r h5n fun σ2 c2 M2 => ⟨qk, fin τ σ2 p P q hri hmi hcm hp h5 c2 M2⟩
      · exact s3_dropLimit hd hcm.2.2.2.2 qk.1 qk.2 rb hp r fun σ2 c2 M2 => ⟨qk, fin τ σ2 p P q hri hmi hcm hp h5 c2 M2⟩
    · rw [e9]
      refine ⟨⟨by omega, by omega⟩, fun z => h0 (Or.inr z), fun z => ⟨fun t => absurd t (by decide), fun t => absurd t (by decide), fun _ => hK _ _ ?_, Or.inr (Or.inr rfl)⟩⟩
      exact mod σ 3 rfl qk ql fun q hp => ⟨fun _ _ => fails_ok hR hJ (by decide), fun h5 => h5.elim (fun y => by rw [r] at y; exact absurd y (by decide)) (fun y => by omega)⟩
  · unfold f_X7_limit
    exact kind_no ra q (no_ne (fails_ok hR hJ (by decide)))
