/-! ===== the reference: adding lines ===== -/
def ML (σ : St) (L : List Ln) : Prop := σ 161 13 = L.length ∧ ∀ (i : Nat) (x : Ln), L[i]? = some x → σ 168 (5 * i) = x.1 ∧ σ 168 (5 * i + 1) = x.2.1 ∧ σ 168 (5 * i + 2) = x.2.2.1 ∧ σ 168 (5 * i + 3) = x.2.2.2.1 ∧ σ 168 (5 * i + 4) = x.2.2.2.2.1
theorem ML.go {σ τ : St} {L : List Ln} (h : ML σ L) (e0 : τ 161 13 = σ 161 13) (e : τ 168 = σ 168) : ML τ L := by
  unfold ML
  rw [e0, e]
  exact h
def FM (σ τ : St) : Prop := (∀ c : Nat, c ≠ 161 → c ≠ 168 → c ≠ 172 → c ≠ 173 → c ≠ 174 → τ c = σ c) ∧ ∀ f : Int, f ≠ 13 → τ 161 f = σ 161 f
theorem FM.rf {σ : St} : FM σ σ := ⟨fun _ _ _ _ _ _ => rfl, fun _ _ => rfl⟩
theorem FM.tr {σ τ ρ : St} (h : FM σ τ) (g : FM τ ρ) : FM σ ρ := ⟨fun c a1 a2 a3 a4 a5 => (g.1 c a1 a2 a3 a4 a5).trans (h.1 c a1 a2 a3 a4 a5), fun f hf => (g.2 f hf).trans (h.2 f hf)⟩
theorem s7_adds {p1 p2 p3 p4 p5 : Int} {L : List Ln} {σ : St} {K : St → Prop} (p6 : Int) (hL : ML σ L) (h7 : L.length < 77) (h : ∀ σ' : St, (∀ c : Nat, c ≠ 161 → c ≠ 168 → σ' c = σ c) → (∀ f : Int, f ≠ 13 → σ' 161 f = σ 161 f) → ML σ' (L ++ [(p1, p2, p3, p4, p5, p6)]) → K σ') : f_X7_adds p1 p2 p3 p4 p5 σ K := by
  unfold f_X7_adds
  rw [hL.1]
  refine ⟨by omega, ?_⟩
  intro s1 e1
  have a1 : s1 161 13 = L.length := by rw [e1, up_c (by decide)]; exact hL.1
  rw [a1]
  refine ⟨by omega, ?_⟩
  intro s2 e2
  have a2 : s2 161 13 = L.length := by rw [e2, up_c (by decide)]; exact a1
  rw [a2]
  refine ⟨by omega, ?_⟩
  intro s3 e3
  have a3 : s3 161 13 = L.length := by rw [e3, up_c (by decide)]; exact a2
  rw [a3]
  refine ⟨by omega, ?_⟩
  intro s4 e4
  have a4 : s4 161 13 = L.length := by rw [e4, up_c (by decide)]; exact a3
  rw [a4]
  refine ⟨by omega, ?_⟩
  intro s5 e5
  have a5 : s5 161 13 = L.length := by rw [e5, up_c (by decide)]; exact a4
  rw [a5]
  intro s6 e6
  clear a1 a2 a3 a4 a5
  refine h _ (fun c g1 g2 => ?_) (fun f hf => ?_) ⟨?_, fun i x hx => ?_⟩
  · subst e6 e5 e4 e3 e2 e1
    simp (disch := omega) only [up_c]
  · subst e6 e5 e4 e3 e2 e1
    simp (disch := omega) only [up_c, up_i]
  · rw [e6, up_s, List.length_append]; rfl
  · subst e6 e5 e4 e3 e2 e1
    rcases get_snoc hx with ⟨ei, ex⟩ | ⟨hx2, hi⟩
    · subst ei ex
      simp (disch := omega) only [up_c, up_i, up_s]
      exact ⟨trivial, trivial, trivial, trivial, trivial⟩
    · simp (disch := omega) only [up_c, up_i]
      exact hL.2 i x hx2
def MT (σ : St) (t : Tr) : Prop := ∀ i : Int, 0 ≤ i → i < t.1 → σ 172 i = t.2.1 i ∧ σ 173 i = t.2.2.1 i ∧ σ 174 i = t.2.2.2 i
theorem s7_addsKind {k : Int} {v : Int → Bool} {L : List Ln} {σ : St} {K : St → Prop} (hd : Dm (σ 162)) (hv : V7 σ v) (k0 : 0 ≤ k) (k1 : k < 12) (hL : ML σ L) (h7 : L.length + (KL (σ 162) v k).length ≤ 77)
    (h : ∀ σ' : St, FM σ σ' → ML σ' (L ++ KL (σ 162) v k) → K σ') : f_X7_addsKind k σ K := by
  have hl : (KL (σ 162) v k).length = (rg (σ 162) v k).1.toNat := KLn_len
  have hset := hd.set
  unfold f_X7_addsKind
  refine wl2s_inv (fun n c τ => (0 ≤ c ∧ c ≤ 6) ∧ n = (tkI (fun c => cn (σ 162) v k c c) c).1 ∧ (∀ c : Nat, c ≠ 172 → c ≠ 173 → c ≠ 174 → τ c = σ c) ∧ MT τ (tkI (fun c => cn (σ 162) v k c c) c)) (fun _ c _ => (6 - c).toNat) ?_ ⟨by omega, rfl, fun _ _ _ _ => rfl, fun i i0 i1 => absurd (show i < 0 from i1) (by omega)⟩
  rintro n c τ ag ⟨hc, hn, hf, hr⟩ hag
  refine ⟨⟨by omega, by omega⟩, fun q => ?_, fun q => ?_⟩
  · have e : c = 6 := by omega
    subst e
    clear hag q hc
    refine wl1s_inv (fun n τ => ∃ (t : Tr) (f : Nat), n = t.1 ∧ t.1 ≤ f + 1 ∧ jns (σ 162 0) f t = rg (σ 162) v k ∧ TOK (σ 162) v k t ∧ (∀ c : Nat, c ≠ 172 → c ≠ 173 → c ≠ 174 → τ c = σ c) ∧ MT τ t) (fun n _ => n.toNat) ?_ ⟨_, 6, hn, by have := (tk_ok (s := σ 162) (v := v) (k := k) 6 (by omega)).1.2.1; show (tk _ 6).1 ≤ _; omega, rfl, (tk_ok 6 (by omega)).1, hf, hr⟩
    clear hn hf hr
    rintro n τ ag ⟨t, f, en, hfu, ej, ht, hf, hr⟩ hag
    subst en
    have t1 := ht.1
    have t2 := ht.2.1
    rw [hf 162 (by decide) (by decide) (by decide)]
    refine ⟨⟨by omega, by omega⟩, ⟨by omega, by omega⟩, fun q => ?_, fun q => ?_⟩
    · rw [jns_le q] at ej
      clear hag
      refine wl1s_inv (fun y ρ => ∃ j : Nat, y = j ∧ (j : Int) ≤ t.1 ∧ (∀ c : Nat, c ≠ 161 → c ≠ 168 → ρ c = τ c) ∧ (∀ f : Int, f ≠ 13 → ρ 161 f = τ 161 f) ∧ ML ρ (L ++ KLn (σ 162) v k j)) (fun y _ => (t.1 - y).toNat) ?_ ⟨0, rfl, by omega, fun _ _ _ => rfl, fun _ _ => rfl, by rw [show KLn (σ 162) v k 0 = [] from rfl, List.append_nil]; exact hL.go (by rw [hf 161 (by decide) (by decide) (by decide)]) (hf 168 (by decide) (by decide) (by decide))⟩
      rintro y ρ ag ⟨j, hy, hj, hc, hf2, hm⟩ hag
      refine ⟨⟨by omega, by omega⟩, ⟨by omega, by omega⟩, fun q2 => ?_, fun q2 => ?_⟩
      · have e : j = (rg (σ 162) v k).1.toNat := by rw [← ej]; omega
        subst e
        refine h ρ ⟨fun c g1 g2 g3 g4 g5 => by rw [hc c g1 g2]; exact hf c g3 g4 g5, fun f hf3 => by rw [hf2 f hf3, hf 161 (by decide) (by decide) (by decide)]⟩ hm
      · have e162 : ρ 162 = σ 162 := by rw [hc 162 (by decide) (by decide), hf 162 (by decide) (by decide) (by decide)]
        refine s7_groupOf ⟨k0, k1⟩ ⟨by omega, by omega, ?_⟩
        have hh := hr y (by omega) (by omega)
        rw [e162, hc 172 (by decide) (by decide), hc 173 (by decide) (by decide), hh.1, hh.2.1]
        refine s7_adds (t.2.2.2 y) hm (by rw [List.length_append, KLn_len]; rw [← ej] at hl; omega) fun σ2 c2 f2 m2 => ?_
        refine hag _ _ ⟨j + 1, by omega, by omega, fun c g1 g2 => (c2 c g1 g2).trans (hc c g1 g2), fun f g1 => (f2 f g1).trans (hf2 f g1), ?_⟩ (by omega)
        rw [KLn_S, ← List.append_assoc, ← ej, ← hy]; exact m2
    · obtain ⟨f, rfl⟩ : ∃ f2, f = f2 + 1 := ⟨f - 1, by omega⟩
      unfold jns at ej
      rw [if_neg q] at ej
      have hS : ∀ i : Int, 0 ≤ i → i < t.1 → 0 ≤ t.2.2.2 i ∧ t.2.2.2 i ≤ 40 := fun i i0 i1 => by rw [(ht.2.2.1 i i0 i1).2.2.2]; exact cn_bd hd v k _ _
      refine wl2_inv (fun x y => (1 ≤ y ∧ y ≤ t.1 - 1) ∧ x = bsI t.2.2.2 y) (fun _ y => (t.1 - y).toNat) ?_ ⟨by omega, rfl⟩
      rintro x y ag2 ⟨hy, hx⟩ hag2
      have hb := bsI_bd t.2.2.2 (i := y) (by omega)
      have hbS := bsI_S t.2.2.2 (i := y) (by omega)
      refine ⟨⟨by omega, by omega⟩, ⟨by omega, by omega⟩, fun q2 => ⟨by omega, by omega, ?_⟩, fun q2 => ⟨by omega, by omega, by omega, by omega, ?_⟩⟩
      · have ey : y = t.1 - 1 := by omega
        rw [ey] at hx hb
        clear hbS hag2
        intro s12 e12
        refine ⟨by omega, by omega, by omega, ?_⟩
        intro s13 e13
        intro x14 e14
        have r0 := hr x (by omega) (by omega)
        have r1 := hr (x + 1) (by omega) (by omega)
        have eL : s12 = up2 τ 173 x (t.2.2.1 (x + 1)) := by rw [e12, r1.2.1]
        have eS : s13 = up2 s12 174 x (t.2.2.2 x + t.2.2.2 (x + 1)) := by
          rw [e13, e12]
          simp (disch := omega) only [up_c]
          rw [r0.2.2, r1.2.2]
        clear e12 e13 r0 r1
        have hj : jn t = (t.1 - 1, fun i => if i ≤ x then t.2.1 i else t.2.1 (i + 1), fun i => if i < x then t.2.2.1 i else t.2.2.1 (i + 1), fun i => if i < x then t.2.2.2 i else if i = x then t.2.2.2 i + t.2.2.2 (i + 1) else t.2.2.2 (i + 1)) := by rw [hx]; rfl
        have jok := jn_ok ht (by omega)
        refine wl1s_inv (fun y ρ => (x + 1 ≤ y ∧ y ≤ t.1 - 1) ∧ (∀ c : Nat, c ≠ 172 → c ≠ 173 → c ≠ 174 → ρ c = σ c) ∧ (∀ i : Int, 0 ≤ i → i < y → ρ 172 i = (if i ≤ x then t.2.1 i else t.2.1 (i + 1)) ∧ ρ 173 i = (if i < x then t.2.2.1 i else t.2.2.1 (i + 1)) ∧ ρ 174 i = (if i < x then t.2.2.2 i else if i = x then t.2.2.2 i + t.2.2.2 (i + 1) else t.2.2.2 (i + 1))) ∧ ∀ i : Int, y ≤ i → i < t.1 → ρ 172 i = t.2.1 i ∧ ρ 173 i = t.2.2.1 i ∧ ρ 174 i = t.2.2.2 i) (fun y _ => (t.1 - y).toNat) ?_ ⟨by omega, fun c g1 g2 g3 => by rw [eS, up_c g3, eL, up_c g2]; exact hf c g1 g2 g3, ?_, ?_⟩
        · rintro z ρ ag3 ⟨hz, hc, hlo, hhi⟩ hag3
          refine ⟨⟨by omega, by omega⟩, ⟨by omega, by omega⟩, fun q3 => ?_, fun q3 => ⟨by omega, by omega, ?_⟩⟩
          · rw [show t.1 + -1 = t.1 - 1 by omega] at q3 ⊢
            refine hag _ _ ⟨jn t, f, by rw [hj], by rw [hj]; show t.1 - 1 ≤ _; omega, ej, jok, hc, ?_⟩ (by omega)
            rw [hj]
            exact fun i i0 i1 => hlo i i0 (by have : i < t.1 - 1 := i1; omega)
          · intro s17 e17
            refine ⟨by omega, by omega, ?_⟩
            intro s18 e18
            refine ⟨by omega, by omega, ?_⟩
            intro s19 e19
            have hh := hhi (z + 1) (by omega) (by omega)
            rw [hh.1] at e17
            have e20 : s17 173 (z + 1) = t.2.2.1 (z + 1) := by rw [e17, up_c (by decide)]; exact hh.2.1
            rw [e20] at e18
            have e21 : s18 174 (z + 1) = t.2.2.2 (z + 1) := by rw [e18, up_c (by decide), e17, up_c (by decide)]; exact hh.2.2
            rw [e21] at e19
            subst e19 e18 e17
            clear e20 e21 hh
            refine hag3 _ _ ⟨by omega, fun c g1 g2 g3 => ?_, fun i i0 i1 => ?_, fun i i0 i1 => ?_⟩ (by omega)
            · simp (disch := omega) only [up_c]; exact hc c g1 g2 g3
            · by_cases q4 : i = z
              · rw [q4, if_neg (by omega), if_neg (by omega), if_neg (by omega), if_neg (by omega)]
                simp (disch := omega) only [up_c, up_s]
                exact ⟨trivial, trivial, trivial⟩
              · simp (disch := omega) only [up_c, up_i]
                exact hlo i i0 (by omega)
            · simp (disch := omega) only [up_c, up_i]
              exact hhi i (by omega) i1
        · intro i i0 i1
          have hh := hr i i0 (by omega)
          by_cases q3 : i = x
          · rw [q3, if_pos (Int.le_refl _), if_neg (by omega), if_neg (by omega), if_pos rfl, eS, up_c (by decide), up_c (by decide), up_s, eL, up_c (by decide), up_s, ← q3]
            exact ⟨hh.1, rfl, rfl⟩
          · rw [if_pos (by omega), if_pos (by omega), if_pos (by omega), eS, up_c (by decide), up_c (by decide), up_i (by omega), eL, up_c (by decide), up_i (by omega), up_c (by decide)]
            exact hh
        · intro i i0 i1
          rw [eS, up_c (by decide), up_c (by decide), up_i (by omega), eL, up_c (by decide), up_i (by omega), up_c (by decide)]
          exact hr i (by omega) i1
      · have r0 := hr x (by omega) (by omega)
        have r1 := hr (x + 1) (by omega) (by omega)
        have r2 := hr y (by omega) (by omega)
        have r3 := hr (y + 1) (by omega) (by omega)
        rw [r0.2.2, r1.2.2, r2.2.2, r3.2.2]
        have b0 := hS x (by omega) (by omega)
        have b1 := hS (x + 1) (by omega) (by omega)
        have b2 := hS y (by omega) (by omega)
        have b3 := hS (y + 1) (by omega) (by omega)
        rw [← hx] at hbS
        refine ⟨⟨by omega, by omega⟩, ⟨by omega, by omega⟩, fun q3 => ?_, fun q3 => ?_⟩
        · refine hag2 _ _ ⟨by omega, ?_⟩ (by omega)
          rw [hbS, if_neg (by omega)]
        · refine hag2 _ _ ⟨by omega, ?_⟩ (by omega)
          rw [hbS, if_pos (by omega)]
  · have e162 : τ 162 = σ 162 := hf 162 (by decide) (by decide) (by decide)
    have hb := cn_bd hd v k c c
    have hS := tkI_S (fun c => cn (σ 162) v k c c) hc.1
    have ht := tk_ok (s := σ 162) (v := v) (k := k) c.toNat (by omega)
    have ht1 : 0 ≤ (tkI (fun c => cn (σ 162) v k c c) c).1 := ht.1.1
    have ht2 : (tkI (fun c => cn (σ 162) v k c c) c).1 ≤ c := by have := ht.2.1; unfold tkI; omega
    clear ht
    refine s7_signsOf (v := v) (by rw [e162]; exact hd) (fun j j0 j1 => by rw [hf 167 (by decide) (by decide) (by decide)]; exact hv j j0 j1) ⟨by omega, by omega⟩ ⟨by omega, by omega⟩ ⟨by omega, by omega⟩ ?_
    rw [e162]
    generalize tkI (fun c => cn (σ 162) v k c c) c = t at hS hr ht1 ht2 hn
    refine ⟨⟨by omega, by omega⟩, fun q2 => ?_, fun q2 => ⟨by omega, ?_⟩⟩
    · rw [if_neg (by omega)] at hS
      exact hag _ _ _ ⟨by omega, by rw [hS]; exact hn, hf, by rw [hS]; exact hr⟩ (by omega)
    · rw [if_pos (by omega)] at hS
      intro s21 e21
      refine ⟨by omega, ?_⟩
      intro s22 e22
      refine ⟨by omega, ?_⟩
      intro s23 e23
      subst e23 e22 e21
      refine hag _ _ _ ⟨by omega, by rw [hS, hn], fun c g1 g2 g3 => ?_, fun j j0 j1 => ?_⟩ (by omega)
      · simp (disch := omega) only [up_c]; exact hf c g1 g2 g3
      · rw [hS] at j1 ⊢
        replace j1 : j < t.1 + 1 := j1
        by_cases q3 : j = t.1
        · subst q3
          rw [hn]
          simp (disch := omega) only [up_c, up_s, setF_s]
          exact ⟨trivial, trivial, trivial⟩
        · simp (disch := omega) only [up_c, up_i, setF_n]
          exact hr j j0 (by omega)
/-! ===== the kind that comes next ===== -/
def W7 (σ : St) (W : Int → Bool) : Prop := ∀ k : Int, 0 ≤ k → k < 12 → σ 175 k = b01 (W k)
def may (s : Rw) (W : Int → Bool) (g k : Int) : Bool := W k && (decide (g = -1) || decide (gp s k = g))
theorem s7_lowest {g : Int} {W : Int → Bool} {R : List Int} {σ : St} {K : Int → Prop} (hd : Dm (σ 162)) (hg : -1 ≤ g ∧ g ≤ 4) (hW : W7 σ W) (hR : R.Pairwise (ltk (σ 162))) (hm : ∀ k : Int, k ∈ R ↔ 0 ≤ k ∧ k < 12 ∧ may (σ 162) W g k = true) (h : K (R.headD (-1))) : f_X7_lowest g σ K := by
  unfold f_X7_lowest
  refine wl2_inv (fun x y => (0 ≤ y ∧ y ≤ 12) ∧ ((x = -1 ∧ ∀ k : Int, 0 ≤ k → k < y → may (σ 162) W g k = false) ∨ ((0 ≤ x ∧ x < y) ∧ may (σ 162) W g x = true ∧ ∀ k : Int, 0 ≤ k → k < y → may (σ 162) W g k = true → k = x ∨ ltk (σ 162) x k))) (fun _ y => (12 - y).toNat) ?_ ⟨by omega, Or.inl ⟨rfl, fun k k0 k1 => by omega⟩⟩
  rintro x y ag ⟨hy, hx⟩ hag
  refine ⟨⟨by omega, by omega⟩, fun q => ?_, fun q => ⟨by omega, ?_⟩⟩
  · have e : y = 12 := by omega
    subst e
    have eh : R.headD (-1) = x := by
      cases R with
      | nil =>
        rcases hx with ⟨e, _⟩ | ⟨h1, h2, _⟩
        · exact e.symm
        · exact absurd ((hm x).mpr ⟨h1.1, h1.2, h2⟩) List.not_mem_nil
      | cons a t =>
        have ha := (hm a).mp List.mem_cons_self
        rcases hx with ⟨_, h2⟩ | ⟨h1, h2, h3⟩
        · rw [h2 a ha.1 ha.2.1] at ha; exact absurd ha.2.2 (by decide)
        · rcases h3 a ha.1 ha.2.1 ha.2.2 with e | e
          · exact e
          · rcases List.mem_cons.mp ((hm x).mpr ⟨h1.1, h1.2, h2⟩) with e2 | e2
            · exact e2.symm
            · have e3 := (List.pairwise_cons.mp hR).1 x e2
              unfold ltk at e e3
              omega
    rw [eh] at h
    exact h
  · refine wj1_intro (fun z => z = b01 (may (σ 162) W g y)) (fun z hz => ?_) (fun J hJ => ?_)
    · refine sp3 hz (fun r => hag _ _ ⟨by omega, ?_⟩ (by omega)) (fun r => ⟨by omega, fun e => hag _ _ ⟨by omega, ?_⟩ (by omega), fun e => ?_⟩)
      · rcases hx with ⟨e, h2⟩ | ⟨h1, h2, h3⟩
        · refine Or.inl ⟨e, fun k k0 k1 => ?_⟩
          by_cases q2 : k = y
          · rw [q2]; exact r
          · exact h2 k k0 (by omega)
        · refine Or.inr ⟨by omega, h2, fun k k0 k1 hk => ?_⟩
          by_cases q2 : k = y
          · rw [q2, r] at hk; exact absurd hk (by decide)
          · exact h3 k k0 (by omega) hk
      · rcases hx with ⟨_, h2⟩ | ⟨h1, _⟩
        · refine Or.inr ⟨by omega, r, fun k k0 k1 hk => ?_⟩
          by_cases q2 : k = y
          · exact Or.inl q2
          · rw [h2 k k0 (by omega)] at hk; exact absurd hk (by decide)
        · omega
      · rcases hx with ⟨e2, _⟩ | ⟨h1, h2, h3⟩
        · exact absurd e2 e
        · have r1 := (hd.kind y hy.1 (by omega)).1
          have r2 := (hd.kind x h1.1 (by omega)).1
          refine s7_rankOf ⟨hy.1, by omega⟩ (s7_rankOf ⟨h1.1, by omega⟩ ⟨⟨by omega, by omega⟩, ⟨by omega, by omega⟩, fun q2 => hag _ _ ⟨by omega, Or.inr ⟨by omega, h2, fun k k0 k1 hk => ?_⟩⟩ (by omega), fun q2 => hag _ _ ⟨by omega, Or.inr ⟨by omega, r, fun k k0 k1 hk => ?_⟩⟩ (by omega)⟩)
          · by_cases q3 : k = y
            · rw [q3]; right; unfold ltk; omega
            · exact h3 k k0 (by omega) hk
          · by_cases q3 : k = y
            · exact Or.inl q3
            · right
              rcases h3 k k0 (by omega) hk with e2 | e2
              · rw [e2]; unfold ltk; omega
              · unfold ltk at e2 ⊢; omega
    · have hgy := (hd.kind y hy.1 (by omega)).2.1
      refine wj0_intro (may (σ 162) W g y = false) (fun z => hJ 0 (by rw [z]; rfl)) (fun J2 h2 => sp3 (hW y hy.1 (by omega)) (fun r => h2 ?_) (fun r => ?_))
      · unfold may; rw [r]; rfl
      · refine wj0_intro (may (σ 162) W g y = true) (fun z => hJ 1 (by rw [z]; rfl)) (fun J3 h3 => ⟨⟨by omega, by omega⟩, fun e => h3 ?_, fun e => s7_groupOf ⟨hy.1, by omega⟩ ⟨⟨by omega, by omega⟩, ⟨by omega, by omega⟩, fun q2 => h2 ?_, fun q2 => h3 ?_⟩⟩)
        · unfold may; rw [r, decide_eq_true e]; rfl
        · unfold may; rw [r, decide_eq_false e, decide_eq_false q2]; rfl
        · unfold may; rw [r, decide_eq_false e, decide_eq_true (Decidable.not_not.mp q2)]; rfl
