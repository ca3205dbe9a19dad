/-! ===== every line is of one of three kinds ===== -/
def WF (s : Rw) (v : Int → Bool) (x : Ln) : Prop := (x.1 = 0 ∧ (0 ≤ x.2.1 ∧ x.2.1 < 12) ∧ x.2.2.1 = gp s x.2.1 ∧ (0 ≤ x.2.2.2.1 ∧ x.2.2.2.1 ≤ x.2.2.2.2.1 ∧ x.2.2.2.2.1 ≤ 5) ∧ x.2.2.2.2.2 = cn s v x.2.1 x.2.2.2.1 x.2.2.2.2.1) ∨ ((x.1 = 1 ∨ x.1 = 2) ∧ x.2.1 = -1 ∧ (0 ≤ x.2.2.1 ∧ x.2.2.1 < 5) ∧ x.2.2.2.1 = -1 ∧ x.2.2.2.2.1 = -1 ∧ x.2.2.2.2.2 = if x.1 = 2 then gs s v x.2.2.1 else 0)
theorem KL_wf {s : Rw} (hd : Dm s) {v : Int → Bool} {k : Int} (k0 : 0 ≤ k) (k1 : k < 12) : ∀ x ∈ KL s v k, WF s v x := by
  intro x hx
  have ho := rg_ok hd v k
  have ho1 := ho.1
  unfold KL KLn at hx
  rw [List.mem_map] at hx
  obtain ⟨j, hj, e⟩ := hx
  rw [List.mem_range] at hj
  have h3 := ho.2.2.1 j (by omega) (by omega)
  rw [← e]
  exact Or.inl ⟨rfl, ⟨k0, k1⟩, rfl, ⟨h3.1, h3.2.1, h3.2.2.1⟩, h3.2.2.2⟩
theorem GL_wf {s : Rw} (hd : Dm s) {v : Int → Bool} {g : Int} (g0 : 0 ≤ g) (g1 : g < 5) : ∀ x ∈ GL s v g, WF s v x := by
  intro x hx
  unfold GL at hx
  split at hx
  · rw [List.mem_singleton] at hx
    rw [hx]
    exact Or.inr ⟨Or.inr rfl, rfl, ⟨g0, g1⟩, rfl, rfl, rfl⟩
  · rcases List.mem_append.mp hx with h | h
    · unfold GH at h
      split at h
      · rw [List.mem_singleton] at h
        rw [h]
        exact Or.inr ⟨Or.inl rfl, rfl, ⟨g0, g1⟩, rfl, rfl, rfl⟩
      · exact absurd h List.not_mem_nil
    · rw [List.mem_flatMap] at h
      obtain ⟨k, hk, hx2⟩ := h
      have hk2 := Od_mem.mp (List.mem_filter.mp hk).1
      exact KL_wf hd hk2.1 hk2.2.1 x hx2
theorem em_wf {s : Rw} (hd : Dm s) {v : Int → Bool} : ∀ (R : List Int) (D : Int → Bool), (∀ k ∈ R, 0 ≤ k ∧ k < 12) → ∀ x ∈ em s v R D, WF s v x
  | [], D, _, x, hx => absurd hx List.not_mem_nil
  | k :: r, D, hR, x, hx => by
    have hk := hR k List.mem_cons_self
    have hR2 : ∀ k ∈ r, 0 ≤ k ∧ k < 12 := fun k hk => hR k (List.mem_cons_of_mem _ hk)
    have hg := (hd.kind k hk.1 hk.2).2.1
    unfold em at hx
    split at hx
    · rcases List.mem_append.mp hx with h | h
      · exact KL_wf hd hk.1 hk.2 x h
      · exact em_wf hd r D hR2 x h
    · split at hx
      · exact em_wf hd r D hR2 x hx
      · rcases List.mem_append.mp hx with h | h
        · exact GL_wf hd (by omega) (by omega) x h
        · exact em_wf hd r _ hR2 x h
theorem Lns_wf {s : Rw} (hd : Dm s) {v : Int → Bool} {x : Ln} (hx : x ∈ Lns s v) : WF s v x := em_wf hd _ _ (fun k hk => by have := Od_mem.mp hk; omega) x hx
theorem gs_bd {s : Rw} (hd : Dm s) (v : Int → Bool) (g : Int) : 0 ≤ gs s v g ∧ gs s v g ≤ 40 := by
  have hn := hd.n
  have := cI_bd (fun i => v i && decide (gp s (kd s i) = g)) hn.1
  unfold gs
  omega
/-- the numbers of a line are small -/
def Sm (x : Ln) : Prop := (0 ≤ x.1 ∧ x.1 ≤ 2) ∧ (-1 ≤ x.2.1 ∧ x.2.1 ≤ 11) ∧ (-1 ≤ x.2.2.1 ∧ x.2.2.1 ≤ 4) ∧ (-1 ≤ x.2.2.2.1 ∧ x.2.2.2.1 ≤ 5) ∧ (-1 ≤ x.2.2.2.2.1 ∧ x.2.2.2.2.1 ≤ 5) ∧ (0 ≤ x.2.2.2.2.2 ∧ x.2.2.2.2.2 ≤ 40)
theorem WF.sm {s : Rw} (hd : Dm s) {v : Int → Bool} {x : Ln} (h : WF s v x) : Sm x := by
  unfold Sm
  rcases h with ⟨h1, h2, h3, h4, h5⟩ | ⟨h1, h2, h3, h4, h5, h6⟩
  · have hg := (hd.kind _ h2.1 h2.2).2.1
    have hc := cn_bd hd v x.2.1 x.2.2.2.1 x.2.2.2.2.1
    exact ⟨by omega, by omega, by omega, by omega, by omega, by omega⟩
  · have hg := gs_bd hd v x.2.2.1
    refine ⟨by omega, by omega, by omega, by omega, by omega, ?_⟩
    rw [h6]
    split <;> omega
/-! ===== the same lines ===== -/
def p5 (x : Ln) : Int × Int × Int × Int × Int := (x.1, x.2.1, x.2.2.1, x.2.2.2.1, x.2.2.2.2.1)
def sm5 (L M : List Ln) : Bool := decide (L.map p5 = M.map p5)
theorem sm5_len {L M : List Ln} (h : L.length ≠ M.length) : sm5 L M = false := by
  refine decide_eq_false fun e => h ?_
  have := congrArg List.length e
  rw [List.length_map, List.length_map] at this
  exact this
theorem sm5_ne {L M : List Ln} {i : Nat} {x y : Ln} (hx : L[i]? = some x) (hy : M[i]? = some y) (h : p5 x ≠ p5 y) : sm5 L M = false := by
  refine decide_eq_false fun e => h ?_
  have e2 := congrArg (fun z => z[i]?) e
  simp only [List.getElem?_map, hx, hy, Option.map_some] at e2
  exact Option.some.inj e2
theorem sm5_eq {L M : List Ln} (hl : L.length = M.length) (h : ∀ (i : Nat) (x y : Ln), L[i]? = some x → M[i]? = some y → p5 x = p5 y) : sm5 L M = true := by
  refine decide_eq_true (List.ext_getElem? fun i => ?_)
  rw [List.getElem?_map, List.getElem?_map]
  by_cases q : i < L.length
  · have e1 := List.getElem?_eq_getElem q
    have e2 := List.getElem?_eq_getElem (hl ▸ q : i < M.length)
    rw [e1, e2, Option.map_some, Option.map_some, h i _ _ e1 e2]
  · rw [List.getElem?_eq_none (by omega), List.getElem?_eq_none (by omega)]
/-- lines without their numbers of signs, as they stand -/
def C5 (σ : St) (b : Nat) (L : List Ln) : Prop := σ b 0 = L.length ∧ ∀ (i : Nat) (x : Ln), L[i]? = some x → σ (b + 1) i = x.1 ∧ σ (b + 2) i = x.2.1 ∧ σ (b + 3) i = x.2.2.1 ∧ σ (b + 4) i = x.2.2.2.1 ∧ σ (b + 5) i = x.2.2.2.2.1
theorem C5.go {σ τ : St} {b : Nat} {L : List Ln} (h : C5 σ b L) (e0 : τ b 0 = σ b 0) (e : ∀ c : Nat, b < c → c ≤ b + 5 → τ c = σ c) : C5 τ b L := by
  unfold C5
  rw [e0, e (b + 1) (by omega) (by omega), e (b + 2) (by omega) (by omega), e (b + 3) (by omega) (by omega), e (b + 4) (by omega) (by omega), e (b + 5) (by omega) (by omega)]
  exact h
theorem CL.c5 {σ : St} {b : Nat} {L : List Ln} (h : CL σ b L) : C5 σ b L := ⟨h.1, fun i x hx => by have := h.2 i x hx; exact ⟨this.1, this.2.1, this.2.2.1, this.2.2.2.1, this.2.2.2.2.1⟩⟩
theorem s2_isSameAs {b q : Nat} {L M : List Ln} {σ : St} {K : Int → Prop} (hL : C5 σ b L) (hM : C5 σ q M) (lL : L.length ≤ 77) (lM : M.length ≤ 77) (sL : ∀ x ∈ L, Sm x) (sM : ∀ x ∈ M, Sm x) (h : K (b01 (sm5 L M))) : f_X2_isSameAs b q σ K := by
  unfold f_X2_isSameAs
  rw [hL.1, hM.1]
  refine ⟨⟨by omega, by omega⟩, ⟨by omega, by omega⟩, fun ql => ?_, fun ql => by rw [sm5_len (by omega)] at h; exact h⟩
  have el : L.length = M.length := by omega
  refine wl1_inv (fun i => (0 ≤ i ∧ i ≤ L.length) ∧ ∀ (j : Nat) (x y : Ln), (j : Int) < i → L[j]? = some x → M[j]? = some y → p5 x = p5 y) (fun i => ((L.length : Int) - i).toNat) ?_ ⟨by omega, fun j x y hj => by omega⟩
  rintro i ag ⟨hi, hj⟩ hag
  refine ⟨⟨by omega, by omega⟩, ⟨by omega, by omega⟩, fun q1 => ?_, fun q1 => ?_⟩
  · rw [sm5_eq el (fun j x y hx hy => hj j x y (by have := get_lt hx; omega) hx hy)] at h; exact h
  · have eN : ((i.toNat : Nat) : Int) = i := by omega
    have e1 := List.getElem?_eq_getElem (by omega : i.toNat < L.length)
    have e2 := List.getElem?_eq_getElem (by omega : i.toNat < M.length)
    have c1 := hL.2 _ _ e1
    have c2 := hM.2 _ _ e2
    have m1 := sL _ (List.getElem_mem (by omega : i.toNat < L.length))
    have m2 := sM _ (List.getElem_mem (by omega : i.toNat < M.length))
    generalize L[i.toNat] = x at e1 c1 m1
    generalize M[i.toNat] = y at e2 c2 m2
    rw [eN] at c1 c2
    rw [c1.1, c1.2.1, c1.2.2.1, c1.2.2.2.1, c1.2.2.2.2, c2.1, c2.2.1, c2.2.2.1, c2.2.2.2.1, c2.2.2.2.2]
    obtain ⟨n1, n2, n3, n4, n5, -⟩ := m1
    obtain ⟨w1, w2, w3, w4, w5, -⟩ := m2
    have no : p5 x ≠ p5 y → K 0 := fun z => by rw [sm5_ne e1 e2 z] at h; exact h
    refine ⟨by omega, by omega, ⟨by omega, by omega⟩, ⟨by omega, by omega⟩, fun z => no fun e => z (congrArg (fun t => t.1) e), fun z1 => ⟨by omega, by omega, ⟨by omega, by omega⟩, ⟨by omega, by omega⟩, fun z => no fun e => z (congrArg (fun t => t.2.1) e), fun z2 => ⟨by omega, by omega, ⟨by omega, by omega⟩, ⟨by omega, by omega⟩, fun z => no fun e => z (congrArg (fun t => t.2.2.1) e), fun z3 => ⟨by omega, by omega, ⟨by omega, by omega⟩, ⟨by omega, by omega⟩, fun z => no fun e => z (congrArg (fun t => t.2.2.2.1) e), fun z4 => ⟨by omega, by omega, ⟨by omega, by omega⟩, ⟨by omega, by omega⟩, fun z5 => ?_, fun z => no fun e => z (congrArg (fun t => t.2.2.2.2) e)⟩⟩⟩⟩⟩
    refine hag _ ⟨by omega, fun j x2 y2 hj2 hx hy => ?_⟩ (by omega)
    by_cases q3 : j = i.toNat
    · subst q3
      rw [e1] at hx
      rw [e2] at hy
      rw [← Option.some.inj hx, ← Option.some.inj hy]
      unfold p5
      rw [Decidable.not_not.mp z1, Decidable.not_not.mp z2, Decidable.not_not.mp z3, Decidable.not_not.mp z4, z5]
    · exact hj j x2 y2 (by omega) hx hy
theorem s2_copyFrom {b q : Nat} {n : Int} {σ : St} {K : St → Prop} (hn : σ q 0 = n) (n0 : 0 ≤ n) (n1 : n ≤ 77) (hq : q + 6 < b ∨ b + 5 < q)
    (h : ∀ σ' : St, (∀ c : Nat, c < b ∨ b + 5 < c → σ' c = σ c) → (∀ f : Int, f ≠ 0 → σ' b f = σ b f) → σ' b 0 = n → (∀ i : Int, 0 ≤ i → i < n → σ' (b + 1) i = σ (q + 1) i ∧ σ' (b + 2) i = σ (q + 2) i ∧ σ' (b + 3) i = σ (q + 3) i ∧ σ' (b + 4) i = σ (q + 4) i ∧ σ' (b + 5) i = σ (q + 5) i) → K σ') : f_X2_copyFrom b q σ K := by
  unfold f_X2_copyFrom
  rw [hn]
  intro s1 e1
  refine wl1s_inv (fun i τ => (0 ≤ i ∧ i ≤ n) ∧ (∀ c : Nat, c < b ∨ b + 5 < c → τ c = σ c) ∧ (∀ f : Int, f ≠ 0 → τ b f = σ b f) ∧ τ b 0 = n ∧ ∀ j : Int, 0 ≤ j → j < i → τ (b + 1) j = σ (q + 1) j ∧ τ (b + 2) j = σ (q + 2) j ∧ τ (b + 3) j = σ (q + 3) j ∧ τ (b + 4) j = σ (q + 4) j ∧ τ (b + 5) j = σ (q + 5) j) (fun i _ => (n - i).toNat) ?_ ⟨by omega, fun c hc => by rw [e1, up_c (by omega)], fun f hf => by rw [e1, up_i hf], by rw [e1, up_s], fun j j0 j1 => by omega⟩
  rintro i τ ag ⟨hi, hc, hf, h0, hj⟩ hag
  rw [h0]
  refine ⟨⟨by omega, by omega⟩, ⟨by omega, by omega⟩, fun q1 => ?_, fun q1 => ⟨by omega, by omega, ?_⟩⟩
  · have e : i = n := by omega
    subst e
    exact h τ hc hf h0 hj
  · intro s4 e4
    refine ⟨by omega, by omega, ?_⟩
    intro s5 e5
    refine ⟨by omega, by omega, ?_⟩
    intro s6 e6
    refine ⟨by omega, by omega, ?_⟩
    intro s7 e7
    refine ⟨by omega, by omega, ?_⟩
    intro s8 e8
    rw [hc (q + 1) (by omega)] at e4
    have g5 : s4 (q + 2) = σ (q + 2) := by rw [e4, up_c (by omega)]; exact hc _ (by omega)
    rw [g5] at e5
    have g6 : s5 (q + 3) = σ (q + 3) := by rw [e5, up_c (by omega), e4, up_c (by omega)]; exact hc _ (by omega)
    rw [g6] at e6
    have g7 : s6 (q + 4) = σ (q + 4) := by rw [e6, up_c (by omega), e5, up_c (by omega), e4, up_c (by omega)]; exact hc _ (by omega)
    rw [g7] at e7
    have g8 : s7 (q + 5) = σ (q + 5) := by rw [e7, up_c (by omega), e6, up_c (by omega), e5, up_c (by omega), e4, up_c (by omega)]; exact hc _ (by omega)
    rw [g8] at e8
    clear g5 g6 g7 g8
    subst e8 e7 e6 e5 e4
    refine hag _ _ ⟨by omega, fun c h2 => ?_, fun f h2 => ?_, ?_, fun j j0 j1 => ?_⟩ (by omega)
    · simp (disch := omega) only [up_c]; exact hc c h2
    · simp (disch := omega) only [up_c]; exact hf f h2
    · simp (disch := omega) only [up_c]; exact h0
    · by_cases q2 : j = i
      · subst q2
        simp (disch := omega) only [up_c, up_s]
        exact ⟨trivial, trivial, trivial, trivial, trivial⟩
      · simp (disch := omega) only [up_c, up_i]
        exact hj j j0 (by omega)
/-! ===== columns: the present one, the lines in it, the most in one ===== -/
abbrev Cs : Type := Int × Int × Int
def tyL (L : List Ln) (n : Nat) : Int := match L[n]? with
  | some x => x.1
  | none => 0
theorem tyL_of {L : List Ln} {n : Nat} {x : Ln} (h : L[n]? = some x) : tyL L n = x.1 := by unfold tyL; rw [h]
def nx (c h ty : Int) (q : Cs) : Int × Int := if q.1 < c - 1 ∧ (q.2.1 = h ∨ (ty = 1 ∧ 0 < q.2.1 ∧ q.2.1 = h - 1)) then (q.1 + 1, 0) else (q.1, q.2.1)
def cs (c h : Int) (L : List Ln) : Nat → Cs
  | 0 => (0, 0, 0)
  | n + 1 => ((nx c h (tyL L n) (cs c h L n)).1, (nx c h (tyL L n) (cs c h L n)).2 + 1, if (cs c h L n).2.2 < (nx c h (tyL L n) (cs c h L n)).2 + 1 then (nx c h (tyL L n) (cs c h L n)).2 + 1 else (cs c h L n).2.2)
def hL' (c n : Int) : Int := (n + c - 1) / c
theorem hL_pos {c n : Int} (c1 : 1 ≤ c) (c4 : c ≤ 4) (hn : 1 ≤ n) (hm : n ≤ 77) : 1 ≤ hL' c n ∧ hL' c n ≤ 77 := by
  unfold hL'
  have : c = 1 ∨ c = 2 ∨ c = 3 ∨ c = 4 := by omega
  rcases this with e | e | e | e <;> subst e <;> omega
theorem hL_rg {c n : Int} (c1 : 1 ≤ c) (c4 : c ≤ 4) (hn : 0 ≤ n) (hm : n ≤ 77) : 0 ≤ hL' c n ∧ hL' c n ≤ 77 := by
  unfold hL'
  have : c = 1 ∨ c = 2 ∨ c = 3 ∨ c = 4 := by omega
  rcases this with e | e | e | e <;> subst e <;> omega
theorem cs_bd {c h : Int} (c1 : 1 ≤ c) (h1 : 1 ≤ h) (L : List Ln) : ∀ n : Nat, (0 ≤ (cs c h L n).1 ∧ (cs c h L n).1 ≤ c - 1) ∧ (0 ≤ (cs c h L n).2.1 ∧ (cs c h L n).2.1 ≤ n) ∧ ((cs c h L n).1 < c - 1 → (cs c h L n).2.1 ≤ h) ∧ ((cs c h L n).2.1 ≤ (cs c h L n).2.2 ∧ (cs c h L n).2.2 ≤ n) ∧ (1 ≤ n → 1 ≤ (cs c h L n).2.2)
  | 0 => ⟨⟨Int.le_refl 0, by show (0 : Int) ≤ c - 1; omega⟩, ⟨Int.le_refl 0, Int.le_refl 0⟩, fun _ => by show (0 : Int) ≤ h; omega, ⟨Int.le_refl 0, Int.le_refl 0⟩, fun h => absurd h (by decide)⟩
  | n + 1 => by
    obtain ⟨i1, i2, i3, i4, -⟩ := cs_bd c1 h1 L n
    have hx : (0 ≤ (nx c h (tyL L n) (cs c h L n)).1 ∧ (nx c h (tyL L n) (cs c h L n)).1 ≤ c - 1) ∧ (0 ≤ (nx c h (tyL L n) (cs c h L n)).2 ∧ (nx c h (tyL L n) (cs c h L n)).2 ≤ n) ∧ ((nx c h (tyL L n) (cs c h L n)).1 < c - 1 → (nx c h (tyL L n) (cs c h L n)).2 + 1 ≤ h) := by
      unfold nx
      split
      · exact ⟨⟨by show 0 ≤ _ + 1; omega, by show _ + 1 ≤ _; omega⟩, ⟨Int.le_refl 0, by show (0 : Int) ≤ n; omega⟩, fun _ => by show (0 : Int) + 1 ≤ h; omega⟩
      · refine ⟨i1, i2, fun z => ?_⟩
        have := i3 z
        show (cs c h L n).2.1 + 1 ≤ h
        omega
    unfold cs
    generalize nx c h (tyL L n) (cs c h L n) = p at hx
    refine ⟨hx.1, ⟨by show 0 ≤ p.2 + 1; omega, by show p.2 + 1 ≤ _; omega⟩, hx.2.2, ?_, fun _ => ?_⟩
    · dsimp only
      split <;> omega
    · dsimp only
      split <;> omega
