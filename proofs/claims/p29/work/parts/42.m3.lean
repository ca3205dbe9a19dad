/-! ===== the class's state of a map: it agrees with a row on what lives ===== -/
def Ms (σ : St) (b : Nat) (s : Rw) : Prop := σ b 5 = s 9 ∧
  (∀ k : Int, 0 ≤ k → k < s 9 → σ (b + 1) k = kd s k ∧ σ (b + 2) k = co s k ∧ σ (b + 3) k = ro s k ∧ σ (b + 4) k = va s k ∧ σ (b + 5) k = le' s k) ∧
  (∀ k : Int, 0 ≤ k → k < 12 → σ (b + 6) k = rk s k ∧ σ (b + 7) k = gp s k ∧ σ (b + 8) k = nl s k ∧ ∀ i : Int, 0 ≤ i → i < nl s k → σ (b + 9) (k * 5 + i) = lm s k i) ∧
  (∀ g : Int, 0 ≤ g → g < 5 → σ (b + 10) g = s (10 + g)) ∧ (∀ j : Int, 0 ≤ j → j < 5 → σ (b + 11) j = s (4 + j)) ∧ ∀ j : Int, 0 ≤ j → j < 4 → σ (b + 12) j = s j
theorem Ms.n {σ : St} {b : Nat} {s : Rw} (h : Ms σ b s) : σ b 5 = s 9 := h.1
theorem Ms.sign {σ : St} {b : Nat} {s : Rw} (h : Ms σ b s) : ∀ k : Int, 0 ≤ k → k < s 9 → σ (b + 1) k = kd s k ∧ σ (b + 2) k = co s k ∧ σ (b + 3) k = ro s k ∧ σ (b + 4) k = va s k ∧ σ (b + 5) k = le' s k := h.2.1
theorem Ms.kind {σ : St} {b : Nat} {s : Rw} (h : Ms σ b s) : ∀ k : Int, 0 ≤ k → k < 12 → σ (b + 6) k = rk s k ∧ σ (b + 7) k = gp s k ∧ σ (b + 8) k = nl s k ∧ ∀ i : Int, 0 ≤ i → i < nl s k → σ (b + 9) (k * 5 + i) = lm s k i := h.2.2.1
theorem Ms.way {σ : St} {b : Nat} {s : Rw} (h : Ms σ b s) : ∀ g : Int, 0 ≤ g → g < 5 → σ (b + 10) g = s (10 + g) := h.2.2.2.1
theorem Ms.win {σ : St} {b : Nat} {s : Rw} (h : Ms σ b s) : ∀ j : Int, 0 ≤ j → j < 5 → σ (b + 11) j = s (4 + j) := h.2.2.2.2.1
theorem Ms.set {σ : St} {b : Nat} {s : Rw} (h : Ms σ b s) : ∀ j : Int, 0 ≤ j → j < 4 → σ (b + 12) j = s j := h.2.2.2.2.2
/-- only the state's own cells matter -/
theorem Ms.go {σ τ : St} {b : Nat} {s : Rw} (h : Ms σ b s) (e : ∀ c : Nat, b ≤ c → c ≤ b + 12 → τ c = σ c) : Ms τ b s := by
  unfold Ms
  rw [e b (by omega) (by omega), e (b + 1) (by omega) (by omega), e (b + 2) (by omega) (by omega), e (b + 3) (by omega) (by omega), e (b + 4) (by omega) (by omega), e (b + 5) (by omega) (by omega), e (b + 6) (by omega) (by omega), e (b + 7) (by omega) (by omega), e (b + 8) (by omega) (by omega), e (b + 9) (by omega) (by omega), e (b + 10) (by omega) (by omega), e (b + 11) (by omega) (by omega), e (b + 12) (by omega) (by omega)]
  exact h
theorem Ms.w0 {σ : St} {b : Nat} {s : Rw} (h : Ms σ b s) : σ (b + 11) 0 = s 4 := h.win 0 (by decide) (by decide)
theorem Ms.w1 {σ : St} {b : Nat} {s : Rw} (h : Ms σ b s) : σ (b + 11) 1 = s 5 := h.win 1 (by decide) (by decide)
theorem Ms.w2 {σ : St} {b : Nat} {s : Rw} (h : Ms σ b s) : σ (b + 11) 2 = s 6 := h.win 2 (by decide) (by decide)
theorem Ms.w3 {σ : St} {b : Nat} {s : Rw} (h : Ms σ b s) : σ (b + 11) 3 = s 7 := h.win 3 (by decide) (by decide)
theorem Ms.w4 {σ : St} {b : Nat} {s : Rw} (h : Ms σ b s) : σ (b + 11) 4 = s 8 := h.win 4 (by decide) (by decide)
theorem s3_isInWindow {b : Nat} {s : Rw} {k : Int} {σ : St} {K : Int → Prop} (hd : Dm s) (hm : Ms σ b s) (h0 : 0 ≤ k) (h1 : k < s 9) (h : K (b01 (wi s k))) : f_X3_isInWindow b k σ K := by
  have hn := hd.n
  have hs := hd.sign k h0 h1
  have hw := hd.win
  have ms := hm.sign k h0 h1
  unfold f_X3_isInWindow
  rw [ms.2.1, ms.2.2.1, hm.w0, hm.w1, hm.w2, hm.w3]
  have F : ¬ (0 ≤ co s k - s 4 ∧ co s k - s 4 < s 6 ∧ 0 ≤ ro s k - s 5 ∧ ro s k - s 5 < s 7) → K 0 := fun q => by
    have e : wi s k = false := decide_eq_false q
    rw [e] at h; exact h
  have T : (0 ≤ co s k - s 4 ∧ co s k - s 4 < s 6 ∧ 0 ≤ ro s k - s 5 ∧ ro s k - s 5 < s 7) → K 1 := fun q => by
    have e : wi s k = true := decide_eq_true q
    rw [e] at h; exact h
  refine ⟨⟨h0, by omega⟩, fun x1 e1 => ⟨⟨h0, by omega⟩, fun x2 e2 => ⟨⟨by omega, by omega⟩, fun q => F (by omega), fun q1 => ⟨⟨by omega, by omega⟩, ⟨by omega, by omega⟩, fun q => F (by omega), fun q2 => ⟨⟨by omega, by omega⟩, fun q => F (by omega), fun q3 => ⟨⟨by omega, by omega⟩, ⟨by omega, by omega⟩, fun q => F (by omega), fun q4 => T (by omega)⟩⟩⟩⟩⟩⟩
theorem s3_isShown {b : Nat} {s : Rw} {k : Int} {σ : St} {K : Int → Prop} (hd : Dm s) (hm : Ms σ b s) (h0 : 0 ≤ k) (h1 : k < s 9) (h : K (b01 (sh' s k))) : f_X3_isShown b k σ K := by
  have hn := hd.n
  have hs := hd.sign k h0 h1
  have hw := hd.win
  have ms := hm.sign k h0 h1
  unfold f_X3_isShown
  rw [ms.2.2.2.2, hm.w4]
  refine ⟨⟨h0, by omega⟩, ⟨by omega, by omega⟩, ⟨by omega, by omega⟩, fun q => ?_, fun q => ?_⟩
  · have e : sh' s k = false := by unfold sh'; rw [decide_eq_false (by omega)]; rfl
    rw [e] at h; exact h
  · have e : sh' s k = wi s k := by unfold sh'; rw [decide_eq_true (by omega)]; rfl
    rw [e] at h
    exact s3_isInWindow hd hm h0 h1 (b01_split (fun r => by rw [r] at h; exact h) (fun r => by rw [r] at h; exact h))
theorem s3_classOf {b : Nat} {s : Rw} {k : Int} {σ : St} {K : Int → Prop} (hd : Dm s) (hm : Ms σ b s) (h0 : 0 ≤ k) (h1 : k < s 9) (h : K (cls s k)) : f_X3_classOf b k σ K := by
  have hn := hd.n
  have hs := hd.sign k h0 h1
  have ms := hm.sign k h0 h1
  have hkk := hd.kind (kd s k) hs.1.1 (by omega)
  have mk := hm.kind (kd s k) hs.1.1 (by omega)
  unfold f_X3_classOf
  rw [ms.1, ms.2.2.2.1]
  refine ⟨⟨h0, by omega⟩, fun x1 e1 => ?_⟩
  subst e1
  rw [mk.2.2.1]
  refine count_loop (fun i => decide (lm s (kd s k) i ≤ va s k)) (nl s (kd s k)) (by omega) (fun a i ag ha i0 i1 hag => ?_) (fun a ag ha => ?_)
  · have hl := hkk.2.2.2.1 i i0 (by omega)
    have ml := mk.2.2.2 i i0 i1
    refine ⟨⟨by omega, by omega⟩, ⟨by omega, by omega⟩, ⟨by omega, by omega⟩, fun q => by omega, fun q => ⟨⟨by omega, by omega⟩, ⟨h0, by omega⟩, ⟨by omega, by omega⟩, ⟨by omega, by omega⟩, fun r => ?_, fun r => ?_⟩⟩
    · rw [ml] at r
      rw [decide_eq_false (by omega)] at hag
      have z := hag; simp only [b01, Int.add_zero] at z; exact z
    · rw [ml] at r
      rw [decide_eq_true (by omega)] at hag
      exact hag
  · refine ⟨⟨by omega, by omega⟩, ⟨by omega, by omega⟩, ⟨by omega, by omega⟩, fun q => ?_, fun q => by omega⟩
    rw [ha]; exact h
theorem s3_countShown {b : Nat} {s : Rw} {σ : St} {K : Int → Prop} (hd : Dm s) (hm : Ms σ b s) (h : K (cI (sh' s) (s 9))) : f_X3_countShown b σ K := by
  have hn := hd.n
  unfold f_X3_countShown
  rw [hm.n]
  refine count_loop (sh' s) (s 9) hn.1 (fun a i ag ha i0 i1 hag => ?_) (fun a ag ha => ?_)
  · refine ⟨⟨by omega, by omega⟩, ⟨by omega, by omega⟩, fun q => by omega, fun q => s3_isShown hd hm i0 i1 (b01_split (fun r => ?_) (fun r => ?_))⟩
    · rw [r] at hag; have z := hag; simp only [b01, Int.add_zero] at z; exact z
    · rw [r] at hag; exact hag
  · refine ⟨⟨by omega, by omega⟩, ⟨by omega, by omega⟩, fun q => ?_, fun q => by omega⟩
    rw [ha]; exact h
theorem s3_limitAt {b : Nat} {s : Rw} {k j : Int} {σ : St} {K : Int → Prop} (hd : Dm s) (hm : Ms σ b s) (h0 : 0 ≤ k) (h1 : k < 12) (hj : 0 ≤ j ∧ j < 5) (h : K (if j < nl s k then lm s k j else -1)) : f_X3_limitAt b k j σ K := by
  have hk := hd.kind k h0 h1
  have mk := hm.kind k h0 h1
  unfold f_X3_limitAt
  rw [mk.2.2.1]
  refine ⟨⟨by omega, by omega⟩, fun q => by omega, fun q => ⟨⟨h0, h1⟩, ⟨by omega, by omega⟩, ⟨by omega, by omega⟩, fun r => ?_, fun r => ⟨⟨by omega, by omega⟩, ?_⟩⟩⟩
  · rw [if_neg (by omega)] at h; exact h
  · rw [if_pos (by omega)] at h; rw [mk.2.2.2 j hj.1 (by omega)]; exact h
/-- whether a kind has a limit -/
def hasL (s : Rw) (k l : Int) : Bool := decide (∃ i : Fin 5, (i : Int) < nl s k ∧ lm s k i = l)
theorem hasL_iff {s : Rw} {k l : Int} (hd : Dm s) (h0 : 0 ≤ k) (h1 : k < 12) : hasL s k l = true ↔ ∃ i : Int, 0 ≤ i ∧ i < nl s k ∧ lm s k i = l := by
  have hk := hd.kind k h0 h1
  unfold hasL
  rw [decide_eq_true_iff]
  constructor
  · rintro ⟨i, hi, e⟩; exact ⟨i, by omega, hi, e⟩
  · rintro ⟨i, i0, hi, e⟩
    have e2 : ((⟨i.toNat, by omega⟩ : Fin 5) : Int) = i := by show ((i.toNat : Nat) : Int) = i; omega
    exact ⟨⟨i.toNat, by omega⟩, by rw [e2]; exact hi, by rw [e2]; exact e⟩
theorem s3_hasLimit {b : Nat} {s : Rw} {k l : Int} {σ : St} {K : Int → Prop} (hd : Dm s) (hm : Ms σ b s) (h0 : 0 ≤ k) (h1 : k < 12) (hl : Rg l) (h : K (b01 (hasL s k l))) : f_X3_hasLimit b k l σ K := by
  have hk := hd.kind k h0 h1
  have mk := hm.kind k h0 h1
  unfold f_X3_hasLimit
  rw [mk.2.2.1]
  refine wl1_inv (fun i => 0 ≤ i ∧ i ≤ nl s k ∧ ∀ j : Int, 0 ≤ j → j < i → lm s k j ≠ l) (fun i => (nl s k - i).toNat) ?_ ⟨by omega, by omega, fun j a b => by omega⟩
  rintro i ag ⟨i0, i1, hi⟩ hag
  refine ⟨⟨h0, h1⟩, ⟨by omega, by omega⟩, ⟨by omega, by omega⟩, fun q => ?_, fun q => ?_⟩
  · have e : hasL s k l = false := by
      cases e : hasL s k l with
      | false => rfl
      | true =>
        obtain ⟨j, j0, j1, e2⟩ := (hasL_iff hd h0 h1).mp e
        exact absurd e2 (hi j j0 (by omega))
    rw [e] at h; exact h
  · have ml := mk.2.2.2 i i0 (by omega)
    have hb := hk.2.2.2.1 i i0 (by omega)
    rw [ml]
    refine ⟨⟨by omega, by omega⟩, ⟨by omega, by omega⟩, hl, fun r => ?_, fun r => ?_⟩
    · refine hag _ ⟨by omega, by omega, fun j j0 j1 => ?_⟩ (by omega)
      by_cases e : j = i
      · rw [e]; exact r
      · exact hi j j0 (by omega)
    · have e : hasL s k l = true := (hasL_iff hd h0 h1).mpr ⟨i, i0, by omega, Decidable.not_not.mp r⟩
      rw [e] at h; exact h
/-! the class's box -/
def b0 (σ : St) (b : Nat) : Bx := (σ b 0, σ b 1, σ b 2, σ b 3, σ b 4)
def VA (σ : St) (c : Nat) (v : Int → Bool) : Prop := ∀ k : Int, 0 ≤ k → k < 40 → σ c k = b01 (v k)
theorem s0_covers {b q : Nat} {s : Rw} {k : Int} {σ : St} {K : Int → Prop} (hd : Dm s) (hm : Ms σ q s) (hb : BxOK (b0 σ b)) (h0 : 0 ≤ k) (h1 : k < s 9) (h : K (b01 (cov s (b0 σ b) k))) : f_X0_covers b q k σ K := by
  have hn := hd.n
  have hs := hd.sign k h0 h1
  have ms := hm.sign k h0 h1
  obtain ⟨hb1, hb2⟩ := hb
  simp only [b0] at hb1 hb2
  unfold f_X0_covers
  rw [ms.2.1, ms.2.2.1]
  have F : ¬ (σ b 0 ≠ -1 ∧ 0 ≤ co s k - σ b 1 ∧ co s k - σ b 1 < σ b 3 ∧ 0 ≤ ro s k - σ b 2 ∧ ro s k - σ b 2 < σ b 4) → K 0 := fun q => by
    have e : cov s (b0 σ b) k = false := decide_eq_false q
    rw [e] at h; exact h
  have T : (σ b 0 ≠ -1 ∧ 0 ≤ co s k - σ b 1 ∧ co s k - σ b 1 < σ b 3 ∧ 0 ≤ ro s k - σ b 2 ∧ ro s k - σ b 2 < σ b 4) → K 1 := fun q => by
    have e : cov s (b0 σ b) k = true := decide_eq_true q
    rw [e] at h; exact h
  refine ⟨⟨h0, by omega⟩, fun x1 e1 => ⟨⟨h0, by omega⟩, fun x2 e2 => ⟨⟨by omega, by omega⟩, fun q => F (by omega), fun q0 => ?_⟩⟩⟩
  have hb3 := hb2 q0
  exact ⟨⟨by omega, by omega⟩, fun q => F (by omega), fun q1 => ⟨⟨by omega, by omega⟩, ⟨by omega, by omega⟩, fun q => F (by omega), fun q2 => ⟨⟨by omega, by omega⟩, fun q => F (by omega), fun q3 => ⟨⟨by omega, by omega⟩, ⟨by omega, by omega⟩, fun q => F (by omega), fun q4 => T (by omega)⟩⟩⟩⟩
theorem s0_countCovered {b q c : Nat} {s : Rw} {v : Int → Bool} {σ : St} {K : Int → Prop} (hd : Dm s) (hm : Ms σ q s) (hb : BxOK (b0 σ b)) (hv : VA σ c v) (h : K (cI (fun k => v k && cov s (b0 σ b) k) (s 9))) : f_X0_countCovered b q c σ K := by
  have hn := hd.n
  unfold f_X0_countCovered
  rw [hm.n]
  refine count_loop (fun k => v k && cov s (b0 σ b) k) (s 9) hn.1 (fun a i ag ha i0 i1 hag => ?_) (fun a ag ha => ?_)
  · refine ⟨⟨by omega, by omega⟩, ⟨by omega, by omega⟩, fun q => by omega, fun q => ⟨⟨i0, by omega⟩, sp3 (hv i i0 (by omega)) (fun r => ?_) (fun r => s0_covers hd hm hb i0 i1 (b01_split (fun t => ?_) (fun t => ?_)))⟩⟩
    · simp only [r, Bool.false_and, b01, Int.add_zero] at hag; exact hag
    · simp only [r, t, Bool.and_false, b01, Int.add_zero] at hag; exact hag
    · simp only [r, t, Bool.and_true, b01] at hag; exact hag
  · refine ⟨⟨by omega, by omega⟩, ⟨by omega, by omega⟩, fun q => ?_, fun q => by omega⟩
    rw [ha]; exact h
