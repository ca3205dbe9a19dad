/-! ===== the reference: what calls tell of a legend ===== -/
theorem L7.v {σ : St} {s : Rw} (h : L7 σ s) : V7 σ (vF s) := h.1
theorem L7.ml {σ : St} {s : Rw} (h : L7 σ s) : ML σ (LF s) := h.2.1
theorem L7.lm {σ : St} {s : Rw} (h : L7 σ s) : LM σ (s 1) (LF s) := h.2.2.1
theorem L7.be {σ : St} {s : Rw} (h : L7 σ s) : BE σ (xF s) := h.2.2.2.1
theorem L7.n16 {σ : St} {s : Rw} (h : L7 σ s) : σ 161 16 = (NN s : Int) + 1 := h.2.2.2.2.1
theorem L7.n17 {σ : St} {s : Rw} (h : L7 σ s) : σ 161 17 = b01 (same s (NN s)) := h.2.2.2.2.2.1
theorem L7.n15 {σ : St} {s : Rw} (h : L7 σ s) : σ 161 15 = (LL s 0).length := h.2.2.2.2.2.2
/-- it speaks of some cells alone -/
theorem L7.go {σ τ : St} {s : Rw} (h : L7 σ s) (e : ∀ c : Nat, c = 167 ∨ c = 168 ∨ c = 170 ∨ c = 171 → τ c = σ c) (e1 : ∀ f : Int, 13 ≤ f → f ≤ 22 → τ 161 f = σ 161 f) : L7 τ s := by
  obtain ⟨h1, h2, h3, h4, h5, h6, h7⟩ := h
  refine ⟨fun k k0 k1 => by rw [e 167 (by decide)]; exact h1 k k0 k1, h2.go (e1 13 (by decide) (by decide)) (e 168 (by decide)), fun i hi => by rw [e 170 (by decide), e 171 (by decide)]; exact h3 i hi, ?_, by rw [e1 16 (by decide) (by decide)]; exact h5, by rw [e1 17 (by decide) (by decide)]; exact h6, by rw [e1 15 (by decide) (by decide)]; exact h7⟩
  have e9 : b7 τ = b7 σ := by unfold b7; rw [e1 18 (by decide) (by decide), e1 19 (by decide) (by decide), e1 20 (by decide) (by decide), e1 21 (by decide) (by decide), e1 22 (by decide) (by decide)]
  unfold BE
  rw [e9, e1 18 (by decide) (by decide)]
  exact h4
theorem s7_standsFor {i k : Int} {v : Int → Bool} {L : List Ln} {σ : St} {K : Int → Prop} (hd : Dm (σ 162)) (hv : V7 σ v) (hL : ML σ L) (lL : L.length ≤ 77) (hw : ∀ x ∈ L, WF (σ 162) v x) (i0 : 0 ≤ i) (i1 : i < L.length) (k0 : 0 ≤ k) (k1 : k < σ 162 9) (h : K (b01 (v k && stX (σ 162) (LnA L i) k))) : f_X7_standsFor i k σ K := by
  have hn := hd.n
  have hs := hd.sign k k0 k1
  have hcl := cls_bd hd k0 k1
  have hc := hL.2 _ _ (LnA_get i0 i1)
  rw [show ((i.toNat : Nat) : Int) = i by omega] at hc
  have hwx := hw _ (LnA_mem i0 i1)
  have hg := (hd.kind (kd (σ 162) k) hs.1.1 (by omega)).2.1
  unfold stX at h
  generalize LnA L i = x at *
  obtain ⟨n1, n2, n3, n4, n5, -⟩ := hwx.sm hd
  unfold f_X7_standsFor
  rw [hc.1, hc.2.1, hc.2.2.1, hc.2.2.2.1, hc.2.2.2.2]
  refine ⟨⟨k0, by omega⟩, sp3 (hv k k0 (by omega)) (fun r => ?_) (fun r => ?_)⟩
  · rw [r] at h; exact h
  rw [r, Bool.true_and] at h
  have T : ((x.1 = 2 ∧ x.2.2.1 = gp (σ 162) (kd (σ 162) k)) ∨ (x.1 = 0 ∧ x.2.1 = kd (σ 162) k ∧ x.2.2.2.1 ≤ cls (σ 162) k ∧ cls (σ 162) k ≤ x.2.2.2.2.1)) → K 1 := fun z => by rw [decide_eq_true z] at h; exact h
  have F : ¬ ((x.1 = 2 ∧ x.2.2.1 = gp (σ 162) (kd (σ 162) k)) ∨ (x.1 = 0 ∧ x.2.1 = kd (σ 162) k ∧ x.2.2.2.1 ≤ cls (σ 162) k ∧ cls (σ 162) k ≤ x.2.2.2.2.1)) → K 0 := fun z => by rw [decide_eq_false z] at h; exact h
  refine ⟨by omega, ⟨by omega, by omega⟩, fun q1 => ⟨by omega, ⟨by omega, by omega⟩, fun q2 => ⟨by omega, s7_of0 ⟨k0, by omega⟩ ⟨⟨by omega, by omega⟩, ⟨by omega, by omega⟩, fun q3 => F (by omega), fun q3 => s7_classOf hd k0 k1 ⟨by omega, by omega, s7_in ⟨by omega, by omega⟩ ⟨by omega, by omega⟩ ⟨by omega, by omega⟩ (b01_split (fun q4 => ?_) (fun q4 => ?_))⟩⟩⟩, fun q2 => s7_of0 ⟨k0, by omega⟩ (s7_groupOf ⟨hs.1.1, by omega⟩ ⟨by omega, ⟨by omega, by omega⟩, ⟨by omega, by omega⟩, fun q3 => F (by omega), fun q3 => T (by omega)⟩)⟩, fun q1 => F (by omega)⟩
  · have q4 := of_decide_eq_false q4
    exact F (by omega)
  · have q4 := of_decide_eq_true q4
    exact T (by omega)
theorem ff_none {P : Int → Bool} : ∀ (n : Nat) (i : Int), (∀ k : Int, P k = false) → ff P n i = -1
  | 0, _, _ => rfl
  | n + 1, i, h => by
    unfold ff
    rw [h i, if_neg (by decide)]
    exact ff_none n (i + 1) h
theorem s7_lineFor {k : Int} {v : Int → Bool} {L : List Ln} {σ : St} {K : Int → Prop} (hd : Dm (σ 162)) (hv : V7 σ v) (hL : ML σ L) (lL : L.length ≤ 77) (hw : ∀ x ∈ L, WF (σ 162) v x) (k0 : 0 ≤ k) (k1 : k < σ 162 9) (h : K (lnF (σ 162) v L k)) : f_X7_lineFor k σ K := by
  unfold f_X7_lineFor
  have e : lnF (σ 162) v L k = ff (fun i => v k && stX (σ 162) (LnA L i) k) (L.length : Int).toNat 0 := by
    unfold lnF
    cases r : v k with
    | true => rw [if_pos rfl]; simp only [Bool.true_and]
    | false => rw [if_neg (by decide)]; exact (ff_none _ _ (fun i => rfl)).symm
  rw [e] at h
  rw [hL.1]
  refine first_loop (fun i => v k && stX (σ 162) (LnA L i) k) L.length (by omega) h (fun i ag i0 i1 hT hF => ⟨⟨by omega, by omega⟩, ⟨by omega, by omega⟩, fun z => by omega, fun _ => s7_standsFor hd hv hL lL hw i0 i1 k0 k1 (b01_split hF hT)⟩) (fun ag hK => ⟨⟨by omega, by omega⟩, ⟨by omega, by omega⟩, fun _ => hK, fun z => by omega⟩)
theorem s7_linesOf {k : Int} {L : List Ln} {σ : St} {K : Int → Prop} (hL : ML σ L) (lL : L.length ≤ 77) (sL : ∀ x ∈ L, Sm x) (hk : Rg k) (h : K (coK L k)) : f_X7_linesOf k σ K := by
  unfold f_X7_linesOf
  rw [hL.1]
  refine count_loop (fun i => decide ((LnA L i).1 = 0 ∧ (LnA L i).2.1 = k)) L.length (by omega) (fun a i ag ha i0 i1 hag => ?_) (fun a ag ha => ?_)
  · have hc := hL.2 _ _ (LnA_get i0 i1)
    have hs := sL _ (LnA_mem i0 i1)
    rw [show ((i.toNat : Nat) : Int) = i by omega] at hc
    generalize LnA L i = x at *
    rw [hc.1, hc.2.1]
    obtain ⟨n1, n2, -⟩ := hs
    have F : ¬ (x.1 = 0 ∧ x.2.1 = k) → ∀ y : Int, y = a + 0 → ag y (i + 1) := fun z y hy => by
      rw [decide_eq_false z] at hag
      rw [hy]; exact hag
    refine ⟨⟨by omega, by omega⟩, ⟨by omega, by omega⟩, fun z => by omega, fun _ => ⟨by omega, ⟨by omega, by omega⟩, fun z => F (by omega), fun z => ⟨by omega, ⟨by omega, by omega⟩, hk, fun z2 => F (by omega), fun z2 => ?_⟩⟩⟩
    rw [decide_eq_true (by omega)] at hag
    intro y hy
    rw [hy]; exact hag
  · exact ⟨⟨by omega, by omega⟩, ⟨by omega, by omega⟩, fun _ => by rw [ha]; exact h, fun z => by omega⟩
theorem cn_tot {s : Rw} (hd : Dm s) (v : Int → Bool) (k : Int) : cn s v k 0 5 = tot s v k := by
  refine cI_eq fun j j0 j1 => ?_
  have hc := cls_bd hd j0 j1
  rw [decide_eq_true (by omega : 0 ≤ cls s j ∧ cls s j ≤ 5), Bool.and_true]
theorem s7_valueOf {w : Int} {σ : St} {K : Int → Prop} (hd : Dm (σ 162)) (hl : L7 σ (σ 162)) (hw : 0 ≤ w ∧ w ≤ 11) (h : K (nbW (σ 162) w)) : f_X7_valueOf w σ K := by
  unfold f_X7_valueOf
  unfold nbW at h
  refine ⟨⟨by omega, by omega⟩, fun q => ⟨⟨by omega, by omega⟩, fun q2 => s7_explainedMany hl.v ?_, fun q2 => s7_shownMany hd ?_⟩, fun q => ⟨by omega, ?_⟩⟩
  · rw [if_neg (by omega), if_neg q2] at h; exact h
  · rw [if_neg (by omega), if_pos (by omega), shw_many hd] at h; exact h
  · rw [if_pos (by omega)] at h; exact h
theorem s7_signOf {k w : Int} {σ : St} {K : Int → Prop} (hd : Dm (σ 162)) (hl : L7 σ (σ 162)) (k0 : 0 ≤ k) (k1 : k < σ 162 9) (hw : 0 ≤ w ∧ w ≤ 8) (h : K (sgW (σ 162) k w)) : f_X7_signOf k w σ K := by
  have hn := hd.n
  unfold f_X7_signOf
  refine ⟨⟨by omega, by omega⟩, fun e => s7_classOf hd k0 k1 ?_, fun e => s7_isShown hd k0 k1 (b01_split (fun r => ?_) (fun r => ?_)), fun e => ⟨⟨k0, by omega⟩, sp3 (hl.v k k0 (by omega)) (fun r => ?_) (fun r => ?_)⟩, fun e => s7_lineFor hd hl.v hl.ml (LF_len hd) (LF_wf hd) k0 k1 ?_, fun e => s7_of ⟨k0, by omega⟩ ⟨hw.1, by omega⟩ ?_⟩
  · unfold sgW at h; rw [if_neg (by omega), if_neg (by omega), if_neg (by omega), if_neg (by omega), if_neg (by omega), if_pos e] at h; exact h
  · unfold sgW at h; rw [if_neg (by omega), if_neg (by omega), if_neg (by omega), if_neg (by omega), if_neg (by omega), if_neg (by omega), if_pos e, shw_lt k1, r] at h; exact h
  · unfold sgW at h; rw [if_neg (by omega), if_neg (by omega), if_neg (by omega), if_neg (by omega), if_neg (by omega), if_neg (by omega), if_pos e, shw_lt k1, r] at h; exact h
  · unfold sgW at h; rw [if_neg (by omega), if_neg (by omega), if_neg (by omega), if_neg (by omega), if_neg (by omega), if_neg (by omega), if_neg (by omega), if_pos e, r] at h; exact h
  · unfold sgW at h; rw [if_neg (by omega), if_neg (by omega), if_neg (by omega), if_neg (by omega), if_neg (by omega), if_neg (by omega), if_neg (by omega), if_pos e, r] at h; exact h
  · unfold sgW at h; rw [if_neg (by omega), if_neg (by omega), if_neg (by omega), if_neg (by omega), if_neg (by omega), if_neg (by omega), if_neg (by omega), if_neg (by omega)] at h; exact h
  · have : w = 0 ∨ w = 1 ∨ w = 2 ∨ w = 3 ∨ w = 4 := by omega
    rcases this with e | e | e | e | e
    · subst e; rw [Int.add_zero]; exact h
    · subst e; exact h
    · subst e; exact h
    · subst e; exact h
    · subst e; exact h
theorem s7_kindOf {k w : Int} {σ : St} {K : Int → Prop} (hd : Dm (σ 162)) (hl : L7 σ (σ 162)) (k0 : 0 ≤ k) (k1 : k < 12) (hw : 0 ≤ w ∧ w ≤ 9) (h : K (kdW (σ 162) k w)) : f_X7_kindOf k w σ K := by
  have hk := hd.kind k k0 k1
  unfold f_X7_kindOf
  intro x1 e1
  have e2 : σ 162 (x1 + 2) = nl (σ 162) k := by rw [e1]; rfl
  rw [e2]
  refine ⟨⟨by omega, by omega⟩, fun q => ⟨⟨by omega, by omega⟩, fun q2 => ⟨⟨by omega, by omega⟩, fun q3 => s7_signsOf hd hl.v ⟨by omega, by omega⟩ ⟨by decide, by decide⟩ ⟨by decide, by decide⟩ ?_, fun q3 => s7_linesOf hl.ml (LF_len hd) (LF_sm hd) ⟨by omega, by omega⟩ ?_⟩, fun q2 => ⟨by omega, ⟨by omega, by omega⟩, ⟨by omega, by omega⟩, fun q3 => ?_, fun q3 => ⟨by omega, ?_⟩⟩⟩, fun q => ⟨by omega, ?_⟩⟩
  · unfold kdW at h
    rw [if_neg (by omega), if_neg (by omega), if_neg (by omega), if_neg (by omega), if_pos (by omega)] at h
    rw [cn_tot hd]; exact h
  · unfold kdW at h
    rw [if_neg (by omega), if_neg (by omega), if_neg (by omega), if_pos (by omega)] at h
    exact h
  · unfold kdW at h
    rw [if_neg (by omega), if_neg (by omega), if_neg (by omega), if_neg (by omega), if_neg (by omega), if_neg (by omega)] at h
    exact h
  · unfold kdW at h
    rw [if_neg (by omega), if_neg (by omega), if_neg (by omega), if_neg (by omega), if_neg (by omega), if_pos (by omega)] at h
    unfold lm at h
    rw [show 15 + 8 * k + 3 + (w - 3) = x1 + w by omega] at h
    exact h
  · have : w = 0 ∨ w = 1 ∨ w = 2 := by omega
    rcases this with e | e | e
    · subst e; rw [Int.add_zero, e1]; exact h
    · subst e; rw [e1]; exact h
    · subst e; rw [e1]; exact h
/-- the signs that a line stands for -/
theorem line_many {s : Rw} (hd : Dm s) {v : Int → Bool} {x : Ln} (hw : WF s v x) : cI (fun k => v k && stX s x k) (s 9) = x.2.2.2.2.2 := by
  rcases hw with ⟨h1, h2, h3, h4, h5⟩ | ⟨h1, h2, h3, h4, h5, h6⟩
  · rw [h5]
    refine cI_eq fun j j0 j1 => ?_
    congr 1
    unfold stX
    by_cases q : kd s j = x.2.1
    · by_cases q2 : x.2.2.2.1 ≤ cls s j ∧ cls s j ≤ x.2.2.2.2.1
      · rw [decide_eq_true q, decide_eq_true q2, decide_eq_true (Or.inr ⟨h1, q.symm, q2⟩)]; rfl
      · rw [decide_eq_false q2, Bool.and_false, decide_eq_false (by omega)]
    · rw [decide_eq_false q, Bool.false_and, decide_eq_false (by omega)]
  · rw [h6]
    split
    · rename_i q
      refine cI_eq fun j j0 j1 => ?_
      congr 1
      unfold stX
      by_cases q2 : gp s (kd s j) = x.2.2.1
      · rw [decide_eq_true q2, decide_eq_true (Or.inl ⟨q, q2.symm⟩)]
      · rw [decide_eq_false q2, decide_eq_false (by omega)]
    · rename_i q
      refine cI_none fun j j0 j1 => ?_
      unfold stX
      rw [decide_eq_false (by omega), Bool.and_false]
theorem s7_lineOf {i w : Int} {σ : St} {K : Int → Prop} (hd : Dm (σ 162)) (hl : L7 σ (σ 162)) (i0 : 0 ≤ i) (i1 : i < (LF (σ 162)).length) (hw : 0 ≤ w ∧ w ≤ 7) (h : K (lnW (σ 162 1) (LF (σ 162)) i w)) : f_X7_lineOf i w σ K := by
  have hn := hd.n
  have hlen := LF_len hd
  have hc := hl.ml.2 _ _ (LnA_get i0 i1)
  have hp := hl.lm i.toNat (by omega)
  rw [show ((i.toNat : Nat) : Int) = i by omega] at hc hp
  have hwx := LF_wf hd _ (LnA_mem i0 i1)
  unfold f_X7_lineOf
  refine ⟨⟨by omega, by omega⟩, fun q => ⟨⟨by omega, by omega⟩, fun q2 => ?_, fun q2 => ⟨⟨by omega, by omega⟩, fun q3 => ⟨by omega, ?_⟩, fun q3 => ⟨by omega, ?_⟩⟩⟩, fun q => ⟨by omega, ?_⟩⟩
  · have ew : w = 5 := by omega
    subst ew
    have hm := line_many hd hwx
    refine count_loop (fun k => vF (σ 162) k && stX (σ 162) (LnA (LF (σ 162)) i) k) (σ 162 9) hn.1 (fun a k ag ha k0 k1 hag => ⟨⟨by omega, by omega⟩, ⟨by omega, by omega⟩, fun z => by omega, fun _ => s7_standsFor hd hl.v hl.ml hlen (LF_wf hd) i0 i1 k0 k1 (b01_split (fun r => ?_) (fun r => ?_))⟩) (fun a ag ha => ⟨⟨by omega, by omega⟩, ⟨by omega, by omega⟩, fun _ => ?_, fun z => by omega⟩)
    · rw [r] at hag; intro y hy; rw [hy]; exact hag
    · rw [r] at hag; intro y hy; rw [hy]; exact hag
    · rw [ha, hm]; exact h
  · have ew : w = 7 := by omega
    subst ew
    rw [hp.2]; exact h
  · have ew : w = 6 := by omega
    subst ew
    rw [hp.1]; exact h
  · have : w = 0 ∨ w = 1 ∨ w = 2 ∨ w = 3 ∨ w = 4 := by omega
    rcases this with e | e | e | e | e
    · subst e; rw [Int.add_zero, hc.1]; exact h
    · subst e; rw [hc.2.1]; exact h
    · subst e; rw [hc.2.2.1]; exact h
    · subst e; rw [hc.2.2.2.1]; exact h
    · subst e; rw [hc.2.2.2.2]; exact h
theorem xF_none {s : Rw} (hd : Dm s) : ((xF s).1 = -1 → ∀ w : Int, bxW (xF s) (cvF s) w = -1) ∧ ((xF s).1 ≠ -1 → cvF s = ctb s (xF s)) := by
  have e : xF s = bx s (LF s) := rfl
  by_cases q : (LF s).length = 0
  · have e2 : xF s = (-1, -1, -1, -1, -1) := by rw [e]; unfold bx; rw [if_pos q]
    refine ⟨fun _ w => ?_, fun z => absurd (by rw [e2]) z⟩
    unfold cvF bxW
    rw [e2, if_pos q]
    repeat' split
    all_goals rfl
  · have e2 : xF s = st s (wdB s (LF s)) (htB s (LF s)) (bc s (wdB s (LF s)) (htB s (LF s)) 4).1 := by rw [e]; unfold bx; rw [if_neg q]
    have hb := (bc_bd hd (wdB s (LF s)) (htB s (LF s)) 4 (by omega)).1
    refine ⟨fun z => ?_, fun _ => by unfold cvF; rw [if_neg q]⟩
    rw [e2] at z
    have z : (bc s (wdB s (LF s)) (htB s (LF s)) 4).1 = -1 := z
    omega
theorem s7_boxOf {w : Int} {σ : St} {K : Int → Prop} (hd : Dm (σ 162)) (hl : L7 σ (σ 162)) (hw : 0 ≤ w ∧ w ≤ 5) (h : K (bxW (xF (σ 162)) (cvF (σ 162)) w)) : f_X7_boxOf w σ K := by
  have hx := xs_ok hd (NN (σ 162) + 1)
  have hN := xF_none hd
  have hc := hl.be.c
  have hx1 : -1 ≤ (xF (σ 162)).1 ∧ (xF (σ 162)).1 ≤ 3 := hx.1
  unfold f_X7_boxOf
  rw [hc]
  refine ⟨⟨by omega, by omega⟩, fun q => ?_, fun q => ?_⟩
  · have eb : b7 σ = xF (σ 162) := by
      rcases hl.be with ⟨z, _⟩ | z
      · exact absurd z q
      · exact z
    rw [hN.2 q] at h
    have hcov := s7_coveredMany (K := K) hd (by rw [eb]; exact hx)
    rw [eb] at hcov
    rw [← eb] at h
    unfold b7 bxW at h
    rw [← hc]
    refine ⟨⟨by omega, by omega⟩, fun e => ?_, fun e => ?_, fun e => ?_, fun e => ?_, fun e => ?_, fun e => hcov ?_⟩
    · rw [if_pos e] at h; exact h
    · rw [if_neg (by omega), if_pos e] at h; exact h
    · rw [if_neg (by omega), if_neg (by omega), if_pos e] at h; exact h
    · rw [if_neg (by omega), if_neg (by omega), if_neg (by omega), if_pos e] at h; exact h
    · rw [if_neg (by omega), if_neg (by omega), if_neg (by omega), if_neg (by omega), if_pos e] at h; exact h
    · rw [if_neg (by omega), if_neg (by omega), if_neg (by omega), if_neg (by omega), if_neg (by omega)] at h
      have e7 : ctb (σ 162) (σ 161 18, σ 161 19, σ 161 20, σ 161 21, σ 161 22) = ctb (σ 162) (xF (σ 162)) := by rw [← eb]; rfl
      rw [e7] at h
      exact h
  · rw [hN.1 (Decidable.not_not.mp q) w] at h; exact h
theorem s7_roundsOf {w : Int} {σ : St} {K : Int → Prop} (hd : Dm (σ 162)) (hl : L7 σ (σ 162)) (hw : 0 ≤ w ∧ w ≤ 2) (h : K (rdW (σ 162) w)) : f_X7_roundsOf w σ K := by
  have hn := hd.n
  have hx := xs_ok hd (NN (σ 162) + 1)
  unfold f_X7_roundsOf
  unfold rdW at h
  refine ⟨⟨by omega, by omega⟩, fun q => ?_, fun q => ⟨⟨by omega, by omega⟩, fun q2 => ?_, fun q2 => ?_⟩⟩
  · rw [if_neg (by omega), if_neg (by omega)] at h
    refine count_loop (fun k => vF (σ 162) k && cov (σ 162) (xF (σ 162)) k) (σ 162 9) hn.1 (fun a k ag ha k0 k1 hag => ⟨⟨by omega, by omega⟩, ⟨by omega, by omega⟩, fun z => by omega, fun _ => ⟨by omega, sp3 (hl.v k k0 (by omega)) (fun r => ?_) (fun r => s7_isCovered hd (hl.be.ok hx) k0 k1 (b01_split (fun t => ?_) (fun t => ?_)))⟩⟩) (fun a ag ha => ⟨⟨by omega, by omega⟩, ⟨by omega, by omega⟩, fun _ => by rw [ha]; exact h, fun z => by omega⟩)
    · rw [r, Bool.false_and] at hag; intro y hy; rw [hy]; exact hag
    · rw [hl.be.cov] at t
      rw [r, t] at hag; intro y hy; rw [hy]; exact hag
    · rw [hl.be.cov] at t
      rw [r, t] at hag; intro y hy; rw [hy]; exact hag
  · rw [if_neg q2, if_pos (by omega)] at h
    exact sp3 hl.n17 (fun r => by rw [r] at h; exact h) (fun r => by rw [r] at h; exact h)
  · rw [if_pos (by omega)] at h
    rw [hl.n16]; exact h
/-! ===== shares ===== -/
set_option maxRecDepth 100000 in
set_option maxHeartbeats 4000000 in
theorem share_ok0 : ∀ a b : Fin 41, b ≠ 0 → ((FP.ddiv (FP.i2d (iI (a.val : Int))) (FP.i2d (iI (b.val : Int)))) &&& 0x7fffffffffffffff ≤ 0x7ff0000000000000) ∧ Op.cmpValue (FP.dcmp (FP.ddiv (FP.i2d (iI (a.val : Int))) (FP.i2d (iI (b.val : Int)))) (FP.ddiv (FP.i2d (iI (a.val : Int))) (FP.i2d (iI (b.val : Int))))) .l = 0 := by decide +kernel
theorem share_ok {a b : Int} (a0 : 0 ≤ a ∧ a ≤ 40) (b0 : 1 ≤ b ∧ b ≤ 40) : vf_n64 (FP.ddiv (FP.i2d (iI a)) (FP.i2d (iI b))) ∧ Op.cmpValue (FP.dcmp (FP.ddiv (FP.i2d (iI a)) (FP.i2d (iI b))) (FP.ddiv (FP.i2d (iI a)) (FP.i2d (iI b)))) .l = 0 := by
  have h := share_ok0 ⟨a.toNat, by omega⟩ ⟨b.toNat, by omega⟩ (fun e => by have := congrArg Fin.val e; simp at this; omega)
  have ea : ((a.toNat : Nat) : Int) = a := by omega
  have eb : ((b.toNat : Nat) : Int) = b := by omega
  dsimp only at h
  rw [ea, eb] at h
  exact h
theorem share_1 : Op.cmpValue (FP.dcmp FP.dconst1 FP.dconst1) .l = 0 := by decide +kernel
