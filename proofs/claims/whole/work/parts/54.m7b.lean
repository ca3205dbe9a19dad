/-! ===== the reference: blocks ===== -/
theorem wl1s_ind {f : Int → St → (Int → St → Prop) → Prop} (Inv : Nat → Int → St → Prop) (hs : ∀ (m : Nat) (y : Int) (τ : St) (ag : Int → St → Prop), Inv m y τ → (∀ (m1 : Nat) (y1 : Int) (τ1 : St), Inv m1 y1 τ1 → m1 < m → ag y1 τ1) → f y τ ag) {m : Nat} {y : Int} {τ : St} (h : Inv m y τ) : ∃ n, wl1s f n y τ := by
  have key : ∀ N : Nat, ∀ (m : Nat) (y : Int) (τ : St), Inv m y τ → m < N → wl1s f N y τ := by
    intro N
    induction N with
    | zero => intro m y τ _ hl; exact absurd hl (Nat.not_lt_zero _)
    | succ N ih => intro m y τ hI hl; exact hs m y τ (wl1s f N) hI (fun m1 y1 τ1 hI1 hl1 => ih m1 y1 τ1 hI1 (by omega))
  exact ⟨m + 1, key _ m y τ h (Nat.lt_succ_self _)⟩
def FG (σ τ : St) : Prop := (∀ c : Nat, c ≠ 161 → c ≠ 168 → c ≠ 172 → c ≠ 173 → c ≠ 174 → c ≠ 175 → τ c = σ c) ∧ ∀ f : Int, f ≠ 13 → τ 161 f = σ 161 f
theorem FG.rf {σ : St} : FG σ σ := ⟨fun _ _ _ _ _ _ _ => rfl, fun _ _ => rfl⟩
theorem FG.tr {σ τ ρ : St} (h : FG σ τ) (g : FG τ ρ) : FG σ ρ := ⟨fun c a1 a2 a3 a4 a5 a6 => (g.1 c a1 a2 a3 a4 a5 a6).trans (h.1 c a1 a2 a3 a4 a5 a6), fun f hf => (g.2 f hf).trans (h.2 f hf)⟩
theorem FM.fg {σ τ : St} (h : FM σ τ) : FG σ τ := ⟨fun c a1 a2 a3 a4 a5 _ => h.1 c a1 a2 a3 a4 a5, h.2⟩
theorem headD_neg {B : List Int} (h : ∀ x ∈ B, 0 ≤ x) : B.headD (-1) = -1 ↔ B = [] := by
  cases B with
  | nil => exact ⟨fun _ => rfl, fun _ => rfl⟩
  | cons a t =>
    have := h a List.mem_cons_self
    constructor
    · intro e
      have e2 : a = -1 := e
      omega
    · intro e; exact absurd e (by simp)
theorem ltk_irr {s : Rw} {a : Int} : ¬ ltk s a a := by unfold ltk; omega
theorem s7_addsGroup {g : Int} {v W : Int → Bool} {L : List Ln} {σ : St} {K : St → Prop} (hd : Dm (σ 162)) (hv : V7 σ v) (hW : W7 σ W) (g0 : 0 ≤ g) (g1 : g < 5) (hWs : ∀ k : Int, 0 ≤ k → k < 12 → gp (σ 162) k = g → W k = isS (σ 162) v k) (hL : ML σ L) (h7 : L.length + (GL (σ 162) v g).length ≤ 77)
    (h : ∀ σ' : St, FG σ σ' → ML σ' (L ++ GL (σ 162) v g) → W7 σ' (fun k => W k && !(ing (σ 162) g k)) → K σ') : f_X7_addsGroup g σ K := by
  unfold f_X7_addsGroup
  refine wl3_inv (fun x1 x2 x3 => (0 ≤ x3 ∧ x3 ≤ 12) ∧ x1 = cI (fun k => decide (gp (σ 162) k = g) && isS (σ 162) v k) x3 ∧ x2 = cI (fun k => decide (gp (σ 162) k = g)) x3) (fun _ _ x3 => (12 - x3).toNat) ?_ ⟨by omega, rfl, rfl⟩
  rintro x1 x2 x3 ag ⟨h3, e1, e2⟩ hag
  refine ⟨⟨by omega, by omega⟩, fun q1 => ⟨by omega, ?_⟩, fun q1 => ?_⟩
  · have e : x3 = 12 := by omega
    subst e
    clear hag
    have hw := hd.way g g0 g1
    have b1 := cI_bd (fun k => decide (gp (σ 162) k = g) && isS (σ 162) v k) (i := 12) (by decide)
    have b2 := cI_bd (fun k => decide (gp (σ 162) k = g)) (i := 12) (by decide)
    rw [← e1] at b1
    rw [← e2] at b2
    have em1 : x1 = see (σ 162) v g := e1
    have em2 : x2 = mem' (σ 162) g := e2
    clear e1 e2
    have hO : ∀ k : Int, k ∈ (Od (σ 162) v).filter (ing (σ 162) g) ↔ 0 ≤ k ∧ k < 12 ∧ gp (σ 162) k = g ∧ isS (σ 162) v k = true := fun k => by
      rw [List.mem_filter, Od_mem]
      unfold ing
      rw [decide_eq_true_iff]
      constructor
      · rintro ⟨⟨a, b, c⟩, d⟩; exact ⟨a, b, d, c⟩
      · rintro ⟨a, b, d, c⟩; exact ⟨⟨a, b, c⟩, d⟩
    have hOs : ((Od (σ 162) v).filter (ing (σ 162) g)).Pairwise (ltk (σ 162)) := Od_sorted.filter _
    refine wj1_intro (fun z => z = b01 (jd (σ 162) v g)) (fun z hz => ?_) (fun J hJ => ?_)
    · have eG : GL (σ 162) v g = (if jd (σ 162) v g = true then [((2, -1, g, -1, -1, gs (σ 162) v g) : Ln)] else GH (σ 162) v g) ++ (if jd (σ 162) v g = true then [] else ((Od (σ 162) v).filter (ing (σ 162) g)).flatMap (KL (σ 162) v)) := by
        unfold GL
        split
        · rw [List.append_nil]
        · rfl
      rw [eG] at h h7
      generalize (Od (σ 162) v).filter (ing (σ 162) g) = O at *
      refine wj0s_intro (fun τ => FM σ τ ∧ ML τ (L ++ (if jd (σ 162) v g = true then [((2, -1, g, -1, -1, gs (σ 162) v g) : Ln)] else GH (σ 162) v g))) (fun τ ⟨hf, hml⟩ => ?_) (fun J hJ => ⟨⟨by omega, by omega⟩, fun q2 => ?_, fun q2 => ?_⟩)
      · have t162 : τ 162 = σ 162 := hf.1 162 (by decide) (by decide) (by decide) (by decide) (by decide)
        have t175 : τ 175 = σ 175 := hf.1 175 (by decide) (by decide) (by decide) (by decide) (by decide)
        refine s7_lowest (W := W) (R := O) (by rw [t162]; exact hd) (by omega) (fun k k0 k1 => by rw [t175]; exact hW k k0 k1) (by rw [t162]; exact hOs) (fun k => ?_) ?_
        · rw [hO k, t162]
          unfold may
          rw [Bool.and_eq_true, decide_eq_false (by omega : ¬ g = -1), Bool.false_or, decide_eq_true_iff]
          constructor
          · rintro ⟨a, b, c, d⟩; exact ⟨a, b, by rw [hWs k a b c]; exact d, c⟩
          · rintro ⟨a, b, d, c⟩; exact ⟨a, b, c, by rw [← hWs k a b c]; exact d⟩
        · refine wl1s_ind (fun m x ρ => ∃ A B : List Int, O = A ++ B ∧ m = B.length ∧ x = B.headD (-1) ∧ FG σ ρ ∧ (∃ W2 : Int → Bool, W7 ρ W2 ∧ ∀ k : Int, 0 ≤ k → k < 12 → (W2 k = true ↔ W k = true ∧ k ∉ A)) ∧ ML ρ (L ++ ((if jd (σ 162) v g = true then [((2, -1, g, -1, -1, gs (σ 162) v g) : Ln)] else GH (σ 162) v g) ++ (if jd (σ 162) v g = true then [] else A.flatMap (KL (σ 162) v))))) ?_ ⟨[], O, rfl, rfl, rfl, hf.fg, ⟨W, fun k k0 k1 => by rw [t175]; exact hW k k0 k1, fun k _ _ => ⟨fun a => ⟨a, List.not_mem_nil⟩, fun a => a.1⟩⟩, by
            have e : (if jd (σ 162) v g = true then ([] : List Ln) else ([] : List Int).flatMap (KL (σ 162) v)) = [] := by split <;> rfl
            rw [e, List.append_nil]; exact hml⟩
          clear hml hf t162 t175
          rintro m x ρ ag ⟨A, B, eO, em, ex, hf, ⟨W2, hW2, hWA⟩, hml⟩ hag
          have hB : ∀ y ∈ B, 0 ≤ y := fun y hy => ((hO y).mp (by rw [eO]; exact List.mem_append_right _ hy)).1
          have hB2 : ∀ y ∈ B, y < 12 := fun y hy => ((hO y).mp (by rw [eO]; exact List.mem_append_right _ hy)).2.1
          have xb : -1 ≤ x ∧ x < 12 := by
            rw [ex]
            cases B with
            | nil => exact ⟨by decide, by decide⟩
            | cons a t =>
              have := hB a List.mem_cons_self
              have := hB2 a List.mem_cons_self
              show -1 ≤ a ∧ a < 12
              omega
          refine ⟨⟨by omega, by omega⟩, fun q3 => ?_, fun q3 => ?_⟩
          · have eB : B = [] := (headD_neg hB).mp (by omega)
            subst eB
            rw [List.append_nil] at eO
            subst eO
            refine h ρ hf hml (fun k k0 k1 => ?_)
            rw [hW2 k k0 k1]
            congr 1
            show W2 k = (W k && !(ing (σ 162) g k))
            have e1 := hWA k k0 k1
            have e2 := hO k
            have e3 := hWs k k0 k1
            unfold ing
            by_cases q4 : gp (σ 162) k = g
            · rw [decide_eq_true q4, Bool.not_true, Bool.and_false]
              cases e4 : W2 k with
              | false => rfl
              | true =>
                have e5 := e1.mp e4
                exact absurd (e2.mpr ⟨k0, k1, q4, by rw [← e3 q4]; exact e5.1⟩) e5.2
            · rw [decide_eq_false q4, Bool.not_false, Bool.and_true]
              cases e4 : W2 k with
              | true => exact (e1.mp e4).1.symm
              | false =>
                cases e5 : W k with
                | false => rfl
                | true =>
                  have := e1.mpr ⟨e5, fun z => q4 (e2.mp z).2.2.1⟩
                  rw [e4] at this; exact this
          · match B, eO, em, ex, hB, hB2 with
            | [], _, _, ex, _, _ => exact absurd ex q3
            | k :: B, eO, em, ex, hB, hB2 =>
            have ex : x = k := ex
            subst ex
            have k0 := hB x List.mem_cons_self
            have k1 := hB2 x List.mem_cons_self
            have eO2 : O = (A ++ [x]) ++ B := by rw [eO]; simp
            have hnd := hOs
            rw [eO2, List.pairwise_append] at hnd
            have hBs := hnd.2.1
            have t162 : ρ 162 = σ 162 := hf.1 162 (by decide) (by decide) (by decide) (by decide) (by decide) (by decide)
            refine ⟨⟨k0, k1⟩, ?_⟩
            intro s15 e15
            have W15 : W7 s15 (fun y => W2 y && !(decide (y = x))) := fun y y0 y1 => by
              rw [e15]
              show _ = b01 (W2 y && !(decide (y = x)))
              by_cases q4 : y = x
              · rw [q4, up_s, decide_eq_true rfl, Bool.not_true, Bool.and_false]; rfl
              · rw [up_i q4, decide_eq_false q4, Bool.not_false, Bool.and_true]; exact hW2 y y0 y1
            have WA15 : ∀ y : Int, 0 ≤ y → y < 12 → ((W2 y && !(decide (y = x))) = true ↔ W y = true ∧ y ∉ A ++ [x]) := fun y y0 y1 => by
              rw [Bool.and_eq_true, hWA y y0 y1, List.mem_append, List.mem_singleton]
              by_cases q4 : y = x
              · rw [decide_eq_true q4]
                exact ⟨fun a => absurd a.2 (by decide), fun a => absurd (Or.inr q4) a.2⟩
              · rw [decide_eq_false q4]
                exact ⟨fun a => ⟨a.1.1, fun z => z.elim a.1.2 q4⟩, fun a => ⟨⟨a.1, fun z => a.2 (Or.inl z)⟩, rfl⟩⟩
            have f15 : FG σ s15 := hf.tr ⟨fun c _ _ _ _ _ a6 => by rw [e15, up_c a6], fun f _ => by rw [e15, up_c (by decide)]⟩
            have m15 := hml.go (τ := s15) (by rw [e15, up_c (by decide)]) (by rw [e15, up_c (by decide)])
            have low : ∀ (τ : St) (K2 : Int → Prop), τ 162 = σ 162 → τ 175 = s15 175 → K2 (B.headD (-1)) → f_X7_lowest g τ K2 := fun τ K2 h1 h2 h3 => by
              refine s7_lowest (W := fun y => W2 y && !(decide (y = x))) (R := B) (by rw [h1]; exact hd) (by omega) (fun k k0 k1 => by rw [h2]; exact W15 k k0 k1) (by rw [h1]; exact hBs) (fun y => ?_) h3
              rw [h1]
              unfold may
              rw [decide_eq_false (by omega : ¬ g = -1), Bool.false_or]
              constructor
              · intro hy
                have y0 := hB y (List.mem_cons_of_mem _ hy)
                have y1 := hB2 y (List.mem_cons_of_mem _ hy)
                have hyO := (hO y).mp (by rw [eO2]; exact List.mem_append_right _ hy)
                have hyn : y ∉ A ++ [x] := fun z => ltk_irr (hnd.2.2 y z y hy)
                refine ⟨y0, y1, ?_⟩
                rw [Bool.and_eq_true]
                exact ⟨(WA15 y y0 y1).mpr ⟨by rw [hWs y y0 y1 hyO.2.2.1]; exact hyO.2.2.2, hyn⟩, decide_eq_true hyO.2.2.1⟩
              · rintro ⟨y0, y1, hy⟩
                rw [Bool.and_eq_true] at hy
                have hg := of_decide_eq_true hy.2
                have hw2 := (WA15 y y0 y1).mp hy.1
                have hyO := (hO y).mpr ⟨y0, y1, hg, by rw [← hWs y y0 y1 hg]; exact hw2.1⟩
                rw [eO2] at hyO
                rcases List.mem_append.mp hyO with z | z
                · exact absurd z hw2.2
                · exact z
            have t15 : s15 162 = σ 162 := by rw [e15, up_c (by decide)]; exact t162
            refine sp4 hz (fun r => ?_) (fun r => ?_)
            · rw [r, if_pos rfl, if_pos rfl] at m15
              refine low s15 _ t15 rfl (hag B.length _ _ ⟨A ++ [x], B, eO2, rfl, rfl, f15, ⟨_, W15, WA15⟩, ?_⟩ (by rw [em]; exact Nat.lt_succ_self _))
              rw [r, if_pos rfl, if_pos rfl]; exact m15
            · rw [r, if_neg (by decide), if_neg (by decide)] at m15
              rw [r, if_neg (by decide), if_neg (by decide), eO2] at h7
              simp only [List.length_append, List.flatMap_append, List.flatMap_cons, List.flatMap_nil, List.append_nil] at h7
              have d15 : Dm (s15 162) := by rw [t15]; exact hd
              refine s7_addsKind (v := v) d15 (fun k k0 k1 => by rw [f15.1 167 (by decide) (by decide) (by decide) (by decide) (by decide) (by decide)]; exact hv k k0 k1) k0 k1 m15 (by rw [t15]; simp only [List.length_append]; omega) fun σ2 f2 m2 => ?_
              rw [t15] at m2
              have t2 : σ2 162 = σ 162 := by rw [f2.1 162 (by decide) (by decide) (by decide) (by decide) (by decide)]; exact t15
              have t3 : σ2 175 = s15 175 := f2.1 175 (by decide) (by decide) (by decide) (by decide) (by decide)
              refine low σ2 _ t2 t3 (hag B.length _ _ ⟨A ++ [x], B, eO2, rfl, rfl, f15.tr f2.fg, ⟨_, fun k k0 k1 => by rw [t3]; exact W15 k k0 k1, WA15⟩, ?_⟩ (by rw [em]; exact Nat.lt_succ_self _))
              rw [r, if_neg (by decide), if_neg (by decide), List.flatMap_append, List.flatMap_cons, List.flatMap_nil, List.append_nil]
              simp only [List.append_assoc] at m2 ⊢
              exact m2
      · have ej : jd (σ 162) v g = false := decide_eq_false (by omega)
        refine hJ _ ⟨FM.rf, ?_⟩
        unfold GH
        rw [ej, if_neg (by decide), if_neg (by omega), List.append_nil]; exact hL
      · rw [List.length_append] at h7
        refine wj1_intro (fun y => y = if jd (σ 162) v g = true then 2 else 1) (fun y hy => ?_) (fun J2 h2 => sp3 hz (fun r => h2 1 (by rw [r]; rfl)) (fun r => h2 2 (by rw [r]; rfl)))
        have e5 : (if jd (σ 162) v g = true then [((2, -1, g, -1, -1, gs (σ 162) v g) : Ln)] else GH (σ 162) v g) = [((y, -1, g, -1, -1, if jd (σ 162) v g = true then gs (σ 162) v g else 0) : Ln)] := by
          rw [hy]
          unfold GH
          split
          · rfl
          · rw [if_pos (by omega)]
        rw [e5] at h7 hJ
        rw [List.length_singleton] at h7
        exact s7_adds _ hL (by omega) fun σ2 c2 f2 m2 => hJ _ ⟨⟨fun c a1 a2 _ _ _ => c2 c a1 a2, f2⟩, m2⟩
    · have hno : ¬ (σ 162 (10 + g) = 1 ∧ 2 ≤ see (σ 162) v g ∧ see (σ 162) v g = mem' (σ 162) g) → J 0 := fun z => hJ 0 (by unfold jd; rw [decide_eq_false z]; rfl)
      refine wj0_intro (¬ (σ 162 (10 + g) = 1 ∧ 2 ≤ see (σ 162) v g ∧ see (σ 162) v g = mem' (σ 162) g)) hno (fun J2 h2 => ⟨⟨by omega, by omega⟩, fun q2 => h2 (by omega), fun q2 => ⟨⟨by omega, by omega⟩, fun q3 => h2 (by omega), fun q3 => ⟨⟨by omega, by omega⟩, ⟨by omega, by omega⟩, fun q4 => h2 (by omega), fun q4 => hJ 1 (by unfold jd; rw [decide_eq_true (by omega)]; rfl)⟩⟩⟩)
  · have hgk := (hd.kind x3 h3.1 (by omega)).2.1
    refine s7_groupOf ⟨h3.1, by omega⟩ ?_
    refine wj1_intro (fun z => z = b01 (decide (gp (σ 162) x3 = g))) (fun z hz => ?_) (fun J hJ => ⟨⟨by omega, by omega⟩, ⟨by omega, by omega⟩, fun q2 => hJ 0 (by rw [decide_eq_false q2]; rfl), fun q2 => hJ 1 (by rw [decide_eq_true (Decidable.not_not.mp q2)]; rfl)⟩)
    intro x22 e22
    have e23 : x22 = cI (fun k => decide (gp (σ 162) k = g)) (x3 + 1) := by rw [cI_S _ h3.1, e22, e2, hz]
    refine s7_groupOf ⟨h3.1, by omega⟩ ⟨⟨by omega, by omega⟩, ⟨by omega, by omega⟩, fun q2 => ?_, fun q2 => ⟨⟨h3.1, by omega⟩, sp3 (hW x3 h3.1 (by omega)) (fun r => ?_) (fun r => ?_)⟩⟩
    · intro x24 e24
      refine hag _ _ _ ⟨by omega, ?_, e23⟩ (by omega)
      rw [cI_S _ h3.1, decide_eq_false q2, ← e1, e24]; rfl
    · intro x25 e25
      rw [hWs x3 h3.1 (by omega) (Decidable.not_not.mp q2)] at r
      refine hag _ _ _ ⟨by omega, ?_, e23⟩ (by omega)
      rw [cI_S _ h3.1, r, Bool.and_false, ← e1, e25]; rfl
    · intro x26 e26
      rw [hWs x3 h3.1 (by omega) (Decidable.not_not.mp q2)] at r
      refine hag _ _ _ ⟨by omega, ?_, e23⟩ (by omega)
      rw [cI_S _ h3.1, r, decide_eq_true (Decidable.not_not.mp q2), ← e1, e26]; rfl
/-- kinds that are done are passed over -/
theorem drop_done {s : Rw} {v D : Int → Bool} : ∀ (B A : List Int), PD s D A → (B.filter (nd s D) = [] ∧ em s v B D = []) ∨ ∃ (A2 : List Int) (k : Int) (r : List Int), A ++ B = A2 ++ k :: r ∧ PD s D A2 ∧ nd s D k = true ∧ B.filter (nd s D) = (k :: r).filter (nd s D) ∧ em s v B D = em s v (k :: r) D ∧ r.length < B.length
  | [], A, _ => Or.inl ⟨rfl, rfl⟩
  | k :: r, A, hP => by
    cases e : nd s D k with
    | true => exact Or.inr ⟨A, k, r, rfl, hP, e, rfl, rfl, Nat.lt_succ_self _⟩
    | false =>
      have e2 : gp s k ≠ -1 ∧ D (gp s k) = true := by
        unfold nd at e
        rw [Bool.or_eq_false_iff, decide_eq_false_iff_not] at e
        exact ⟨e.1, by simpa using e.2⟩
      have e3 : (k :: r).filter (nd s D) = r.filter (nd s D) := by rw [List.filter_cons, if_neg (by rw [e]; decide)]
      have e4 : em s v (k :: r) D = em s v r D := by
        show (if gp s k = -1 then KL s v k ++ em s v r D else if D (gp s k) = true then em s v r D else GL s v (gp s k) ++ em s v r (addD D (gp s k))) = _
        rw [if_neg e2.1, if_pos e2.2]
      rcases drop_done (v := v) r (A ++ [k]) (hP.add (Or.inr e2.2)) with h | ⟨A2, k2, r2, h1, h2, h3, h4, h5, h6⟩
      · exact Or.inl ⟨by rw [e3]; exact h.1, by rw [e4]; exact h.2⟩
      · exact Or.inr ⟨A2, k2, r2, by rw [← h1]; simp, h2, h3, by rw [e3]; exact h4, by rw [e4]; exact h5, Nat.lt_succ_of_lt h6⟩
theorem s7_listsLines {v : Int → Bool} {σ : St} {K : St → Prop} (hd : Dm (σ 162)) (hv : V7 σ v) (h : ∀ σ' : St, FG σ σ' → ML σ' (Lns (σ 162) v) → K σ') : f_X7_listsLines σ K := by
  have hl7 := Lns_len hd v
  unfold f_X7_listsLines
  intro s1 e1
  have fg1 : FG σ s1 := ⟨fun c a1 _ _ _ _ _ => by rw [e1, up_c a1], fun f hf => by rw [e1, up_i hf]⟩
  have z1 : s1 161 13 = 0 := by rw [e1, up_s]
  clear e1
  refine wl1s_inv (fun i τ => (0 ≤ i ∧ i ≤ 12) ∧ FG σ τ ∧ τ 161 13 = 0 ∧ ∀ k : Int, 0 ≤ k → k < i → τ 175 k = b01 (isS (σ 162) v k)) (fun i _ => (12 - i).toNat) ?_ ⟨by omega, fg1, z1, fun k k0 k1 => by omega⟩
  clear z1 fg1
  rintro i τ ag ⟨hi, hf, hz, hk⟩ hag
  have t162 : τ 162 = σ 162 := hf.1 162 (by decide) (by decide) (by decide) (by decide) (by decide) (by decide)
  have t167 : τ 167 = σ 167 := hf.1 167 (by decide) (by decide) (by decide) (by decide) (by decide) (by decide)
  refine ⟨⟨by omega, by omega⟩, fun q => ?_, fun q => ?_⟩
  · have e : i = 12 := by omega
    subst e
    clear hag
    have low : ∀ (ρ : St) (W : Int → Bool) (R : List Int) (K2 : Int → Prop), ρ 162 = σ 162 → W7 ρ W → R.Pairwise (ltk (σ 162)) → (∀ y ∈ R, 0 ≤ y ∧ y < 12) → (∀ k : Int, 0 ≤ k → k < 12 → (W k = true ↔ k ∈ R)) → K2 (R.headD (-1)) → f_X7_lowest (-1) ρ K2 := fun ρ W R K2 h1 h2 h3 h4 h5 h6 => by
      refine s7_lowest (by rw [h1]; exact hd) (by decide) h2 (by rw [h1]; exact h3) (fun k => ?_) h6
      unfold may
      rw [decide_eq_true (rfl : (-1 : Int) = -1), Bool.true_or, Bool.and_true]
      exact ⟨fun z => ⟨(h4 k z).1, (h4 k z).2, (h5 k (h4 k z).1 (h4 k z).2).mpr z⟩, fun z => (h5 k z.1 z.2.1).mp z.2.2⟩
    have hOm : ∀ y ∈ Od (σ 162) v, 0 ≤ y ∧ y < 12 := fun y hy => by have := Od_mem.mp hy; omega
    refine low τ (isS (σ 162) v) ((Od (σ 162) v).filter (nd (σ 162) (fun _ => false))) _ t162 hk (Od_sorted.filter _) (fun y hy => hOm y (List.mem_filter.mp hy).1) (fun k k0 k1 => ?_) ?_
    · rw [List.mem_filter, Od_mem]
      unfold nd
      rw [Bool.not_false, Bool.or_true]
      exact ⟨fun z => ⟨⟨k0, k1, z⟩, rfl⟩, fun z => z.1.2.2⟩
    refine wl1s_ind (fun m x ρ => ∃ (A B : List Int) (D : Int → Bool) (L : List Ln) (W : Int → Bool), Od (σ 162) v = A ++ B ∧ m = B.length ∧ PD (σ 162) D A ∧ x = (B.filter (nd (σ 162) D)).headD (-1) ∧ FG σ ρ ∧ W7 ρ W ∧ (∀ k : Int, 0 ≤ k → k < 12 → (W k = true ↔ k ∈ B.filter (nd (σ 162) D))) ∧ ML ρ L ∧ L ++ em (σ 162) v B D = Lns (σ 162) v) ?_ ⟨[], Od (σ 162) v, fun _ => false, [], isS (σ 162) v, rfl, rfl, fun x hx => absurd hx List.not_mem_nil, rfl, hf, hk, fun k k0 k1 => ?_, ⟨hz, fun i x hx => absurd (get_lt hx) (Nat.not_lt_zero _)⟩, rfl⟩
    · clear hf hz hk t162 t167
      rintro m x ρ ag ⟨A, B, D, L, W, eO, em', hP, ex, hf, hW, hWB, hml, eE⟩ hag
      have t162 : ρ 162 = σ 162 := hf.1 162 (by decide) (by decide) (by decide) (by decide) (by decide) (by decide)
      have t167 : ρ 167 = σ 167 := hf.1 167 (by decide) (by decide) (by decide) (by decide) (by decide) (by decide)
      have d2 : Dm (ρ 162) := by rw [t162]; exact hd
      have v2 : V7 ρ v := fun k k0 k1 => by rw [t167]; exact hv k k0 k1
      rcases drop_done (v := v) B A hP with ⟨hB, hE⟩ | ⟨A2, k, r, h1, h2, h3, h4, h5, h6⟩
      · rw [hB] at ex
        have ex : x = -1 := ex
        subst ex
        refine ⟨⟨by decide, by decide⟩, fun _ => ?_, fun z => absurd rfl z⟩
        rw [hE, List.append_nil] at eE
        rw [← eE] at h
        exact h ρ hf hml
      · rw [h4] at ex hWB
        rw [h5] at eE
        have e3 : (k :: r).filter (nd (σ 162) D) = k :: r.filter (nd (σ 162) D) := by rw [List.filter_cons, if_pos h3]
        rw [e3] at ex hWB
        have ex : x = k := ex
        subst ex
        rw [h1] at eO
        clear h1 h4 h5 hP e3
        have hkO := hOm x (by rw [eO]; exact List.mem_append_right _ List.mem_cons_self)
        have hgk := (hd.kind x hkO.1 hkO.2).2.1
        have eO2 : Od (σ 162) v = (A2 ++ [x]) ++ r := by rw [eO]; simp
        have hs := Od_sorted (s := σ 162) (v := v)
        rw [eO2, List.pairwise_append] at hs
        have hrs := hs.2.1
        have hxr : x ∉ r := fun z => ltk_irr (hs.2.2 x (List.mem_append_right _ (List.mem_singleton.mpr rfl)) x z)
        have hr12 : ∀ y ∈ r, 0 ≤ y ∧ y < 12 := fun y hy => hOm y (by rw [eO2]; exact List.mem_append_right _ hy)
        refine ⟨⟨by omega, by omega⟩, fun z => by omega, fun _ => s7_groupOf hkO ?_⟩
        rw [t162]
        refine ⟨⟨by omega, by omega⟩, fun q2 => s7_groupOf hkO ?_, fun q2 => ⟨hkO, ?_⟩⟩
        · rw [t162]
          have hD : D (gp (σ 162) x) = false := by
            unfold nd at h3
            rw [decide_eq_false q2, Bool.false_or] at h3
            simpa using h3
          unfold em at eE
          rw [if_neg q2, if_neg (by rw [hD]; decide)] at eE
          have h7 : L.length + (GL (σ 162) v (gp (σ 162) x)).length ≤ 77 := by
            rw [← eE] at hl7
            simp only [List.length_append] at hl7
            omega
          refine s7_addsGroup (v := v) (W := W) d2 v2 hW (by omega) (by omega) (fun y y0 y1 hy => ?_) hml (by rw [t162]; exact h7) fun σ2 f2 m2 w2 => ?_
          · rw [t162] at hy ⊢
            have hyn : nd (σ 162) D y = true := by unfold nd; rw [hy, hD, Bool.not_false, Bool.or_true]
            have hw := hWB y y0 y1
            have hyO := Od_mem (s := σ 162) (v := v) (x := y)
            cases e : isS (σ 162) v y with
            | true =>
              refine hw.mpr ?_
              have z := hyO.mpr ⟨y0, y1, e⟩
              rw [eO] at z
              rcases List.mem_append.mp z with z1 | z1
              · rcases h2 y z1 with z2 | z2
                · exact absurd (by rw [← hy]; exact z2) q2
                · rw [hy, hD] at z2; exact absurd z2 (by decide)
              · rcases List.mem_cons.mp z1 with z2 | z2
                · rw [z2]; exact List.mem_cons_self
                · exact List.mem_cons_of_mem _ (List.mem_filter.mpr ⟨z2, hyn⟩)
            | false =>
              cases e2 : W y with
              | false => rfl
              | true =>
                have z := hw.mp e2
                have z2 : y ∈ Od (σ 162) v := by
                  rw [eO]
                  refine List.mem_append_right _ ?_
                  rcases List.mem_cons.mp z with z3 | z3
                  · rw [z3]; exact List.mem_cons_self
                  · exact List.mem_cons_of_mem _ (List.mem_filter.mp z3).1
                rw [(hyO.mp z2).2.2] at e; exact absurd e (by decide)
          · rw [t162] at m2 w2
            have u162 : σ2 162 = σ 162 := by rw [f2.1 162 (by decide) (by decide) (by decide) (by decide) (by decide) (by decide)]; exact t162
            have hWr : ∀ y : Int, 0 ≤ y → y < 12 → ((W y && !(ing (σ 162) (gp (σ 162) x) y)) = true ↔ y ∈ r.filter (nd (σ 162) (addD D (gp (σ 162) x)))) := fun y y0 y1 => by
              rw [Bool.and_eq_true, hWB y y0 y1, List.mem_cons, List.mem_filter, List.mem_filter]
              by_cases q3 : gp (σ 162) y = gp (σ 162) x
              · have e1 : nd (σ 162) (addD D (gp (σ 162) x)) y = false := by unfold nd addD; rw [q3, decide_eq_true rfl, Bool.or_true, decide_eq_false q2]; rfl
                have e2 : ing (σ 162) (gp (σ 162) x) y = true := decide_eq_true q3
                rw [e1, e2]
                exact ⟨fun a => absurd a.2 (by decide), fun a => absurd a.2 (by decide)⟩
              · have e1 : nd (σ 162) (addD D (gp (σ 162) x)) y = nd (σ 162) D y := by unfold nd addD; rw [decide_eq_false q3, Bool.or_false]
                have e2 : ing (σ 162) (gp (σ 162) x) y = false := decide_eq_false q3
                rw [e1, e2]
                refine ⟨fun a => ?_, fun a => ⟨Or.inr a, rfl⟩⟩
                rcases a.1 with b | b
                · exact absurd (by rw [b]) q3
                · exact b
            refine low σ2 _ (r.filter (nd (σ 162) (addD D (gp (σ 162) x)))) _ u162 w2 (hrs.filter _) (fun y hy => hr12 y (List.mem_filter.mp hy).1) hWr (hag r.length _ _ ⟨A2 ++ [x], r, addD D (gp (σ 162) x), L ++ GL (σ 162) v (gp (σ 162) x), _, eO2, rfl, h2.grow, rfl, hf.tr f2, w2, hWr, m2, by rw [List.append_assoc]; exact eE⟩ (by omega))
        · have q2 : gp (σ 162) x = -1 := Decidable.not_not.mp q2
          intro s11 e11
          unfold em at eE
          rw [if_pos q2] at eE
          have h7 : L.length + (KL (σ 162) v x).length ≤ 77 := by
            rw [← eE] at hl7
            simp only [List.length_append] at hl7
            omega
          have f11 : FG σ s11 := hf.tr ⟨fun c _ _ _ _ _ a6 => by rw [e11, up_c a6], fun f _ => by rw [e11, up_c (by decide)]⟩
          have u162 : s11 162 = σ 162 := by rw [e11, up_c (by decide)]; exact t162
          have w11 : W7 s11 (fun y => W y && !(decide (y = x))) := fun y y0 y1 => by
            rw [e11]
            show _ = b01 (W y && !(decide (y = x)))
            by_cases q4 : y = x
            · rw [q4, up_s, decide_eq_true rfl, Bool.not_true, Bool.and_false]; rfl
            · rw [up_i q4, decide_eq_false q4, Bool.not_false, Bool.and_true]; exact hW y y0 y1
          have hWr : ∀ y : Int, 0 ≤ y → y < 12 → ((W y && !(decide (y = x))) = true ↔ y ∈ r.filter (nd (σ 162) D)) := fun y y0 y1 => by
            rw [Bool.and_eq_true, hWB y y0 y1, List.mem_cons]
            by_cases q4 : y = x
            · rw [decide_eq_true q4]
              exact ⟨fun a => absurd a.2 (by decide), fun a => absurd (by rw [← q4]; exact (List.mem_filter.mp a).1) hxr⟩
            · rw [decide_eq_false q4]
              exact ⟨fun a => a.1.elim (fun b => absurd b q4) id, fun a => ⟨Or.inr a, rfl⟩⟩
          refine s7_addsKind (v := v) (by rw [u162]; exact hd) (fun k k0 k1 => by rw [f11.1 167 (by decide) (by decide) (by decide) (by decide) (by decide) (by decide)]; exact hv k k0 k1) hkO.1 hkO.2 (hml.go (τ := s11) (by rw [e11, up_c (by decide)]) (by rw [e11, up_c (by decide)])) (by rw [u162]; exact h7) fun σ2 f2 m2 => ?_
          rw [u162] at m2
          have u2 : σ2 162 = σ 162 := by rw [f2.1 162 (by decide) (by decide) (by decide) (by decide) (by decide)]; exact u162
          have w2 : W7 σ2 (fun y => W y && !(decide (y = x))) := fun y y0 y1 => by rw [f2.1 175 (by decide) (by decide) (by decide) (by decide) (by decide)]; exact w11 y y0 y1
          refine low σ2 _ (r.filter (nd (σ 162) D)) _ u2 w2 (hrs.filter _) (fun y hy => hr12 y (List.mem_filter.mp hy).1) hWr (hag r.length _ _ ⟨A2 ++ [x], r, D, L ++ KL (σ 162) v x, _, eO2, rfl, h2.add (Or.inl q2), rfl, f11.tr f2.fg, w2, hWr, m2, by rw [List.append_assoc]; exact eE⟩ (by omega))
    · rw [List.mem_filter, Od_mem]
      unfold nd
      rw [Bool.not_false, Bool.or_true]
      exact ⟨fun z => ⟨⟨k0, k1, z⟩, rfl⟩, fun z => z.1.2.2⟩
  · refine s7_isInSight (v := v) (by rw [t162]; exact hd) (fun k k0 k1 => by rw [t167]; exact hv k k0 k1) ⟨by omega, by omega⟩ ⟨⟨hi.1, by omega⟩, b01_bl _, ?_⟩
    rw [t162]
    intro s15 e15
    refine hag _ _ ⟨by omega, hf.tr ⟨fun c _ _ _ _ _ a6 => by rw [e15, up_c a6], fun f _ => by rw [e15, up_c (by decide)]⟩, by rw [e15, up_c (by decide)]; exact hz, fun k k0 k1 => ?_⟩ (by omega)
    rw [e15]
    by_cases q2 : k = i
    · rw [q2, up_s]; rfl
    · rw [up_i q2]; exact hk k k0 (by omega)
