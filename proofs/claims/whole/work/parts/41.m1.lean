/-! ===== first of a kind ===== -/
def ff (P : Int → Bool) : Nat → Int → Int
  | 0, _ => -1
  | n + 1, i => if P i then i else ff P n (i + 1)
theorem first_loop {f : Int → (Int → Prop) → Prop} (P : Int → Bool) (n : Int) (h0 : 0 ≤ n) {K : Int → Prop} (h : K (ff P n.toNat 0)) (hs : ∀ (i : Int) (ag : Int → Prop), 0 ≤ i → i < n → (P i = true → K i) → (P i = false → ag (i + 1)) → f i ag) (he : ∀ ag : Int → Prop, K (-1) → f n ag) : ∃ m, wl1 f m 0 := by
  refine wl1_inv (fun i => 0 ≤ i ∧ i ≤ n ∧ K (ff P (n - i).toNat i)) (fun i => (n - i).toNat) ?_ ⟨by omega, by omega, by rw [Int.sub_zero]; exact h⟩
  rintro i ag ⟨i0, i1, hk⟩ hag
  by_cases q : i = n
  · subst q
    rw [Int.sub_self] at hk
    exact he ag hk
  · have e : (n - i).toNat = (n - (i + 1)).toNat + 1 := by omega
    rw [e] at hk
    refine hs i ag i0 (by omega) (fun p => ?_) (fun p => hag _ ⟨by omega, by omega, ?_⟩ (by omega))
    · simpa [ff, p] using hk
    · simpa [ff, p] using hk
theorem ff_bd (P : Int → Bool) : ∀ (n : Nat) (i : Int), 0 ≤ i → -1 ≤ ff P n i ∧ ff P n i < i + n + 1
  | 0, i, h => by simp [ff]; omega
  | n + 1, i, h => by
    have := ff_bd P n (i + 1) (by omega)
    unfold ff
    split <;> omega
theorem ff_eq {P Q : Int → Bool} : ∀ (n : Nat) (i : Int), (∀ k : Int, i ≤ k → k < i + n → P k = Q k) → ff P n i = ff Q n i
  | 0, _, _ => rfl
  | n + 1, i, h => by
    unfold ff
    rw [h i (by omega) (by omega), ff_eq n (i + 1) (fun k h1 h2 => h k (by omega) (by omega))]
/-! ===== the reference: reads ===== -/
theorem s7_in {a lo hi : Int} {σ : St} {K : Int → Prop} (ha : Rg a) (hl : Rg lo) (hh : Rg hi) (h : K (b01 (decide (lo ≤ a ∧ a ≤ hi)))) : f_X7_in a lo hi σ K := by
  unfold f_X7_in
  refine ⟨ha, hl, fun q => ?_, fun q => ⟨ha, hh, fun r => ?_, fun r => ?_⟩⟩
  · rw [decide_eq_false (by omega)] at h; exact h
  · rw [decide_eq_false (by omega)] at h; exact h
  · rw [decide_eq_true (by omega)] at h; exact h
theorem s7_isKind {a : Int} {σ : St} {K : Int → Prop} (ha : Rg a) (h : K (b01 (decide (0 ≤ a ∧ a ≤ 11)))) : f_X7_isKind a σ K := by
  unfold f_X7_isKind
  exact s7_in ha ⟨by decide, by decide⟩ ⟨by decide, by decide⟩ ⟨b01_bl _, h⟩
theorem s7_of {k j : Int} {σ : St} {K : Int → Prop} (hk : 0 ≤ k ∧ k < 40) (hj : 0 ≤ j ∧ j < 5) (h : K (σ 162 (111 + 5 * k + j))) : f_X7_of k j σ K := ⟨by omega, h⟩
theorem s7_of0 {k : Int} {σ : St} {K : Int → Prop} (hk : 0 ≤ k ∧ k < 40) (h : K (kd (σ 162) k)) : f_X7_of k 0 σ K := s7_of hk (by decide) (by rw [Int.add_zero]; exact h)
theorem s7_of1 {k : Int} {σ : St} {K : Int → Prop} (hk : 0 ≤ k ∧ k < 40) (h : K (co (σ 162) k)) : f_X7_of k 1 σ K := s7_of hk (by decide) h
theorem s7_of2 {k : Int} {σ : St} {K : Int → Prop} (hk : 0 ≤ k ∧ k < 40) (h : K (ro (σ 162) k)) : f_X7_of k 2 σ K := s7_of hk (by decide) h
theorem s7_of3 {k : Int} {σ : St} {K : Int → Prop} (hk : 0 ≤ k ∧ k < 40) (h : K (va (σ 162) k)) : f_X7_of k 3 σ K := s7_of hk (by decide) h
theorem s7_of4 {k : Int} {σ : St} {K : Int → Prop} (hk : 0 ≤ k ∧ k < 40) (h : K (le' (σ 162) k)) : f_X7_of k 4 σ K := s7_of hk (by decide) h
theorem s7_rankOf {k : Int} {σ : St} {K : Int → Prop} (hk : 0 ≤ k ∧ k < 12) (h : K (rk (σ 162) k)) : f_X7_rankOf k σ K := ⟨by omega, h⟩
theorem s7_groupOf {k : Int} {σ : St} {K : Int → Prop} (hk : 0 ≤ k ∧ k < 12) (h : K (gp (σ 162) k)) : f_X7_groupOf k σ K := ⟨by omega, h⟩
theorem s7_isSign {k : Int} {σ : St} {K : Int → Prop} (hk : Rg k) (hd : Dm (σ 162)) (h : K (b01 (decide (0 ≤ k ∧ k < σ 162 9)))) : f_X7_isSign k σ K := by
  have hn := hd.n
  unfold f_X7_isSign
  refine ⟨hk, fun q => ?_, fun q => ⟨hk, ⟨by omega, by omega⟩, fun r => ?_, fun r => ?_⟩⟩
  · rw [decide_eq_false (by omega)] at h; exact h
  · rw [decide_eq_false (by omega)] at h; exact h
  · rw [decide_eq_true (by omega)] at h; exact h
theorem s7_classOf {k : Int} {σ : St} {K : Int → Prop} (hd : Dm (σ 162)) (h0 : 0 ≤ k) (h1 : k < σ 162 9) (h : K (cls (σ 162) k)) : f_X7_classOf k σ K := by
  have hn := hd.n
  have hs := hd.sign k h0 h1
  have hkk := hd.kind (kd (σ 162) k) hs.1.1 (by omega)
  unfold f_X7_classOf
  refine s7_of0 ⟨h0, by omega⟩ ?_
  intro x hx
  have e2 : σ 162 (x + 2) = nl (σ 162) (kd (σ 162) k) := by rw [hx]; rfl
  refine count_loop (fun i => decide (lm (σ 162) (kd (σ 162) k) i ≤ va (σ 162) k)) (nl (σ 162) (kd (σ 162) k)) (by omega) (fun a i ag ha i0 i1 hag => ?_) (fun a ag ha => ?_)
  · have el : σ 162 (x + 3 + i) = lm (σ 162) (kd (σ 162) k) i := by rw [hx]; rfl
    have hl := hkk.2.2.2.1 i i0 (by omega)
    refine ⟨by omega, ⟨by omega, by omega⟩, ⟨by omega, by omega⟩, fun q => by omega, fun q => ⟨by omega, ?_⟩⟩
    refine s7_of3 ⟨h0, by omega⟩ ⟨⟨by omega, by omega⟩, ⟨by omega, by omega⟩, fun r => ?_, fun r => ?_⟩
    · intro x6 h6
      rw [el] at r
      rw [decide_eq_false (by omega)] at hag
      rw [h6]; exact hag
    · intro x6 h6
      rw [el] at r
      rw [decide_eq_true (by omega)] at hag
      rw [h6]; exact hag
  · refine ⟨by omega, ⟨by omega, by omega⟩, ⟨by omega, by omega⟩, fun q => ?_, fun q => by omega⟩
    rw [ha]; exact h
theorem s7_isWithin {k : Int} {σ : St} {K : Int → Prop} (hd : Dm (σ 162)) (h0 : 0 ≤ k) (h1 : k < σ 162 9) (h : K (b01 (wi (σ 162) k))) : f_X7_isWithin k σ K := by
  have hn := hd.n
  have hs := hd.sign k h0 h1
  have hw := hd.win
  unfold f_X7_isWithin
  refine s7_of1 ⟨h0, by omega⟩ (s7_in ⟨by omega, by omega⟩ ⟨by decide, by decide⟩ ⟨by omega, by omega⟩ (b01_split (fun q => ?_) (fun q => ?_)))
  · have q := of_decide_eq_false q
    have e : wi (σ 162) k = false := decide_eq_false (by omega)
    rw [e] at h; exact h
  · have q := of_decide_eq_true q
    refine s7_of2 ⟨h0, by omega⟩ (s7_in ⟨by omega, by omega⟩ ⟨by decide, by decide⟩ ⟨by omega, by omega⟩ (b01_split (fun r => ?_) (fun r => ?_)))
    · have r := of_decide_eq_false r
      have e : wi (σ 162) k = false := decide_eq_false (by omega)
      rw [e] at h; exact h
    · have r := of_decide_eq_true r
      have e : wi (σ 162) k = true := decide_eq_true (by omega)
      rw [e] at h; exact h
theorem s7_isShown {k : Int} {σ : St} {K : Int → Prop} (hd : Dm (σ 162)) (h0 : 0 ≤ k) (h1 : k < σ 162 9) (h : K (b01 (sh' (σ 162) k))) : f_X7_isShown k σ K := by
  have hn := hd.n
  have hs := hd.sign k h0 h1
  have hw := hd.win
  unfold f_X7_isShown
  refine s7_of4 ⟨h0, by omega⟩ ⟨⟨by omega, by omega⟩, ⟨by omega, by omega⟩, fun q => ?_, fun q => ?_⟩
  · have e : sh' (σ 162) k = false := by unfold sh'; rw [decide_eq_false (by omega)]; rfl
    rw [e] at h; exact h
  · have e : sh' (σ 162) k = wi (σ 162) k := by unfold sh'; rw [decide_eq_true (by omega)]; rfl
    rw [e] at h
    exact s7_isWithin hd h0 h1 (b01_split (fun r => by rw [r] at h; exact h) (fun r => by rw [r] at h; exact h))
theorem s7_shownMany {σ : St} {K : Int → Prop} (hd : Dm (σ 162)) (h : K (cI (sh' (σ 162)) (σ 162 9))) : f_X7_shownMany σ K := by
  have hn := hd.n
  unfold f_X7_shownMany
  refine count_loop (sh' (σ 162)) (σ 162 9) hn.1 (fun a i ag ha i0 i1 hag => ?_) (fun a ag ha => ?_)
  · refine ⟨⟨by omega, by omega⟩, ⟨by omega, by omega⟩, fun q => by omega, fun q => s7_isShown hd i0 i1 (b01_split (fun r => ?_) (fun r => ?_))⟩
    · rw [r] at hag; intro x hx; rw [hx]; exact hag
    · rw [r] at hag; intro x hx; rw [hx]; exact hag
  · refine ⟨⟨by omega, by omega⟩, ⟨by omega, by omega⟩, fun q => ?_, fun q => by omega⟩
    rw [ha]; exact h
/-! a box (corner, left, top, wide, high) covers a sign -/
abbrev Bx : Type := Int × Int × Int × Int × Int
def cov (s : Rw) (x : Bx) (k : Int) : Bool := decide (x.1 ≠ -1 ∧ 0 ≤ co s k - x.2.1 ∧ co s k - x.2.1 < x.2.2.2.1 ∧ 0 ≤ ro s k - x.2.2.1 ∧ ro s k - x.2.2.1 < x.2.2.2.2)
/-- the box is one that may stand on the map, or there is none -/
def BxOK (x : Bx) : Prop := (-1 ≤ x.1 ∧ x.1 ≤ 3) ∧ (x.1 ≠ -1 → (0 ≤ x.2.1 ∧ x.2.1 ≤ 399) ∧ (0 ≤ x.2.2.1 ∧ x.2.2.1 ≤ 399) ∧ (1 ≤ x.2.2.2.1 ∧ x.2.2.2.1 ≤ 200) ∧ (1 ≤ x.2.2.2.2 ∧ x.2.2.2.2 ≤ 200))
/-- the reference's box -/
def b7 (σ : St) : Bx := (σ 161 18, σ 161 19, σ 161 20, σ 161 21, σ 161 22)
theorem s7_isCovered {k : Int} {σ : St} {K : Int → Prop} (hd : Dm (σ 162)) (hb : BxOK (b7 σ)) (h0 : 0 ≤ k) (h1 : k < σ 162 9) (h : K (b01 (cov (σ 162) (b7 σ) k))) : f_X7_isCovered k σ K := by
  have hn := hd.n
  have hs := hd.sign k h0 h1
  obtain ⟨hb1, hb2⟩ := hb
  simp only [b7] at hb1 hb2
  unfold f_X7_isCovered
  refine ⟨⟨by omega, by omega⟩, fun q => ?_, fun q => ?_⟩
  · have e : cov (σ 162) (b7 σ) k = false := decide_eq_false (fun z => z.1 q)
    rw [e] at h; exact h
  have hb3 := hb2 q
  refine s7_of1 ⟨h0, by omega⟩ (s7_in ⟨by omega, by omega⟩ ⟨by decide, by decide⟩ ⟨by omega, by omega⟩ (b01_split (fun q1 => ?_) (fun q1 => ?_)))
  · have q1 := of_decide_eq_false q1
    have e : cov (σ 162) (b7 σ) k = false := decide_eq_false (by simp only [b7]; omega)
    rw [e] at h; exact h
  · have q1 := of_decide_eq_true q1
    refine s7_of2 ⟨h0, by omega⟩ (s7_in ⟨by omega, by omega⟩ ⟨by decide, by decide⟩ ⟨by omega, by omega⟩ (b01_split (fun r => ?_) (fun r => ?_)))
    · have r := of_decide_eq_false r
      have e : cov (σ 162) (b7 σ) k = false := decide_eq_false (by simp only [b7]; omega)
      rw [e] at h; exact h
    · have r := of_decide_eq_true r
      have e : cov (σ 162) (b7 σ) k = true := decide_eq_true (by simp only [b7]; omega)
      rw [e] at h; exact h
theorem s7_coveredMany {σ : St} {K : Int → Prop} (hd : Dm (σ 162)) (hb : BxOK (b7 σ)) (h : K (cI (fun k => sh' (σ 162) k && cov (σ 162) (b7 σ) k) (σ 162 9))) : f_X7_coveredMany σ K := by
  have hn := hd.n
  unfold f_X7_coveredMany
  refine count_loop (fun k => sh' (σ 162) k && cov (σ 162) (b7 σ) k) (σ 162 9) hn.1 (fun a i ag ha i0 i1 hag => ?_) (fun a ag ha => ?_)
  · refine ⟨⟨by omega, by omega⟩, ⟨by omega, by omega⟩, fun q => by omega, fun q => s7_isShown hd i0 i1 (b01_split (fun r => ?_) (fun r => s7_isCovered hd hb i0 i1 (b01_split (fun t => ?_) (fun t => ?_))))⟩
    · simp only [r, Bool.false_and] at hag; intro x hx; rw [hx]; exact hag
    · simp only [r, t, Bool.and_false] at hag; intro x hx; rw [hx]; exact hag
    · simp only [r, t, Bool.and_true] at hag; intro x hx; rw [hx]; exact hag
  · refine ⟨⟨by omega, by omega⟩, ⟨by omega, by omega⟩, fun q => ?_, fun q => by omega⟩
    rw [ha]; exact h
/-! sight -/
def V7 (σ : St) (v : Int → Bool) : Prop := ∀ k : Int, 0 ≤ k → k < 40 → σ 167 k = b01 (v k)
theorem sp3 {x : Int} {B : Bool} {A C : Prop} (hx : x = b01 B) (h : B = false → A) (h2 : B = true → C) : Rg x ∧ (x = 0 → A) ∧ (¬ x = 0 → C) := by subst hx; exact b01_split h h2
theorem sp4 {x : Int} {B : Bool} {A C : Prop} (hx : x = b01 B) (h2 : B = true → C) (h : B = false → A) : Rg x ∧ (x ≠ 0 → C) ∧ (¬ x ≠ 0 → A) := by subst hx; exact b01_tilps h2 h
theorem s7_explainedMany {σ : St} {v : Int → Bool} {K : Int → Prop} (hv : V7 σ v) (h : K (cI v 40)) : f_X7_explainedMany σ K := by
  unfold f_X7_explainedMany
  refine count_loop v 40 (by decide) (fun a i ag ha i0 i1 hag => ?_) (fun a ag ha => ?_)
  · refine ⟨⟨by omega, by omega⟩, fun q => by omega, fun q => ⟨⟨i0, i1⟩, sp3 (hv i i0 i1) (fun r => ?_) (fun r => ?_)⟩⟩
    · rw [r] at hag; intro x hx; rw [hx]; exact hag
    · rw [r] at hag; intro x hx; rw [hx]; exact hag
  · refine ⟨⟨by decide, by decide⟩, fun q => ?_, fun q => absurd (by decide) q⟩
    rw [ha]; exact h
/-- how many signs in sight are of a kind, and of its classes from lo to hi -/
def cn (s : Rw) (v : Int → Bool) (k lo hi : Int) : Int := cI (fun i => v i && (decide (kd s i = k) && decide (lo ≤ cls s i ∧ cls s i ≤ hi))) (s 9)
def tot (s : Rw) (v : Int → Bool) (k : Int) : Int := cI (fun i => v i && decide (kd s i = k)) (s 9)
theorem s7_signsOf {k lo hi : Int} {σ : St} {v : Int → Bool} {K : Int → Prop} (hd : Dm (σ 162)) (hv : V7 σ v) (hk : Rg k) (hl : Rg lo) (hh : Rg hi) (h : K (cn (σ 162) v k lo hi)) : f_X7_signsOf k lo hi σ K := by
  have hn := hd.n
  unfold f_X7_signsOf
  refine count_loop (fun i => v i && (decide (kd (σ 162) i = k) && decide (lo ≤ cls (σ 162) i ∧ cls (σ 162) i ≤ hi))) (σ 162 9) hn.1 (fun a i ag ha i0 i1 hag => ?_) (fun a ag ha => ?_)
  · have hs := hd.sign i i0 i1
    have hc := cls_bd hd i0 i1
    refine ⟨⟨by omega, by omega⟩, ⟨by omega, by omega⟩, fun q => by omega, fun q => ⟨⟨i0, by omega⟩, sp3 (hv i i0 (by omega)) (fun r => ?_) (fun r => ?_)⟩⟩
    · simp only [r, Bool.false_and] at hag; intro x hx; rw [hx]; exact hag
    · refine s7_of0 ⟨i0, by omega⟩ ⟨⟨by omega, by omega⟩, hk, fun t => ?_, fun t => s7_classOf hd i0 i1 (s7_in ⟨by omega, by omega⟩ hl hh (b01_split (fun u => ?_) (fun u => ?_)))⟩
      · rw [decide_eq_false t] at hag; simp only [Bool.false_and, Bool.and_false] at hag; intro x hx; rw [hx]; exact hag
      · simp only [u, Bool.and_false] at hag; intro x hx; rw [hx]; exact hag
      · rw [decide_eq_true (Decidable.not_not.mp t)] at hag; simp only [r, u, Bool.and_true] at hag; intro x hx; rw [hx]; exact hag
  · refine ⟨⟨by omega, by omega⟩, ⟨by omega, by omega⟩, fun q => ?_, fun q => by omega⟩
    rw [ha]; exact h
theorem cI_pos {P : Int → Bool} {n k : Int} (h0 : 0 ≤ k) (h1 : k < n) (h : P k = true) : 0 < cI P n := by
  have key : ∀ m : Nat, k < m → 0 < cN P m := by
    intro m
    induction m with
    | zero => intro q; omega
    | succ m ih =>
      intro q
      have b := (cN_bd P m).1
      have b2 := b01_rg0 (P m)
      show 0 < cN P m + b01 (P m)
      by_cases e : k = m
      · rw [← e, h]; simp only [b01]; omega
      · have := ih (by omega); omega
  exact key n.toNat (by omega)
theorem s7_isInSight {k : Int} {σ : St} {v : Int → Bool} {K : Int → Prop} (hd : Dm (σ 162)) (hv : V7 σ v) (hk : Rg k) (h : K (b01 (decide (0 < tot (σ 162) v k)))) : f_X7_isInSight k σ K := by
  have hn := hd.n
  unfold f_X7_isInSight
  refine wl2_inv (fun a i => 0 ≤ i ∧ i ≤ σ 162 9 ∧ a = b01 (decide (0 < cI (fun i => v i && decide (kd (σ 162) i = k)) i))) (fun a i => (σ 162 9 - i).toNat) ?_ ⟨by omega, by omega, rfl⟩
  rintro a i ag ⟨i0, i1, ha⟩ hag
  refine ⟨⟨by omega, by omega⟩, ⟨by omega, by omega⟩, fun q => ?_, fun q => ?_⟩
  · have e : i = σ 162 9 := by omega
    subst e
    rw [ha]
    exact ⟨b01_bl _, h⟩
  · have hs := hd.sign i i0 (by omega)
    have eS := cI_S (fun i => v i && decide (kd (σ 162) i = k)) i0
    have cb := (cI_bd (fun i => v i && decide (kd (σ 162) i = k)) i0).1
    refine sp4 ha (fun r => ?_) (fun r => ⟨⟨i0, by omega⟩, sp3 (hv i i0 (by omega)) (fun t => ?_) (fun t => s7_of0 ⟨i0, by omega⟩ ⟨⟨by omega, by omega⟩, hk, fun u => ?_, fun u => ?_⟩)⟩)
    · have r := of_decide_eq_true r
      have b2 := b01_rg0 (v i && decide (kd (σ 162) i = k))
      refine hag _ _ ⟨by omega, by omega, ?_⟩ (by omega)
      rw [eS, decide_eq_true (by omega)]; rfl
    · have r := of_decide_eq_false r
      refine hag _ _ ⟨by omega, by omega, ?_⟩ (by omega)
      rw [eS, t, decide_eq_false (by simp only [Bool.false_and, b01]; omega)]; rfl
    · have r := of_decide_eq_false r
      refine hag _ _ ⟨by omega, by omega, ?_⟩ (by omega)
      rw [eS, decide_eq_false u, decide_eq_false (by simp only [Bool.and_false, b01]; omega)]; rfl
    · have r := of_decide_eq_false r
      refine hag _ _ ⟨by omega, by omega, ?_⟩ (by omega)
      rw [eS, t, decide_eq_true (Decidable.not_not.mp u), decide_eq_true (by simp only [Bool.and_true, b01]; omega)]; rfl
