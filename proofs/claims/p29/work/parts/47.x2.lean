/-! ===== the class's lines: adding ===== -/
theorem get_snoc {α : Type} {L : List α} {y x : α} {i : Nat} (h : (L ++ [y])[i]? = some x) : (i = L.length ∧ x = y) ∨ (L[i]? = some x ∧ i < L.length) := by
  rw [List.getElem?_append] at h
  split at h
  · rename_i q
    exact Or.inr ⟨h, q⟩
  · rename_i q
    cases e : i - L.length with
    | zero =>
      rw [e] at h
      have h2 : y = x := by simpa using h
      exact Or.inl ⟨by omega, h2.symm⟩
    | succ n => rw [e] at h; simp at h
theorem get_lt {α : Type} {L : List α} {x : α} {i : Nat} (h : L[i]? = some x) : i < L.length := by
  refine Nat.lt_of_not_le fun q => ?_
  rw [List.getElem?_eq_none q] at h
  exact absurd h (by simp)
theorem snoc_of {α : Type} : ∀ L : List α, L = [] ∨ ∃ A a, L = A ++ [a]
  | [] => Or.inl rfl
  | x :: r => Or.inr (match snoc_of r with
    | Or.inl h => ⟨[], x, by rw [h]; rfl⟩
    | Or.inr ⟨A, a, h⟩ => ⟨x :: A, a, by rw [h]; rfl⟩)
theorem get_mid {α : Type} {A B : List α} {x : α} : (A ++ x :: B)[A.length]? = some x := by
  rw [List.getElem?_append_right (Nat.le_refl _), Nat.sub_self]; rfl
def CL (σ : St) (b : Nat) (L : List Ln) : Prop := σ b 0 = L.length ∧ ∀ (i : Nat) (x : Ln), L[i]? = some x → σ (b + 1) i = x.1 ∧ σ (b + 2) i = x.2.1 ∧ σ (b + 3) i = x.2.2.1 ∧ σ (b + 4) i = x.2.2.2.1 ∧ σ (b + 5) i = x.2.2.2.2.1 ∧ σ (b + 6) i = x.2.2.2.2.2
theorem CL.go {σ τ : St} {b : Nat} {L : List Ln} (h : CL σ b L) (e0 : τ b 0 = σ b 0) (e : ∀ c : Nat, b < c → c ≤ b + 6 → τ c = σ c) : CL τ b L := by
  unfold CL
  rw [e0, e (b + 1) (by omega) (by omega), e (b + 2) (by omega) (by omega), e (b + 3) (by omega) (by omega), e (b + 4) (by omega) (by omega), e (b + 5) (by omega) (by omega), e (b + 6) (by omega) (by omega)]
  exact h
def FA (σ τ : St) (b : Nat) : Prop := (∀ c : Nat, c < b ∨ b + 6 < c → τ c = σ c) ∧ ∀ f : Int, f ≠ 0 → τ b f = σ b f
theorem FA.rf {σ : St} {b : Nat} : FA σ σ b := ⟨fun _ _ => rfl, fun _ _ => rfl⟩
theorem FA.tr {σ τ ρ : St} {b : Nat} (h : FA σ τ b) (g : FA τ ρ b) : FA σ ρ b := ⟨fun c hc => (g.1 c hc).trans (h.1 c hc), fun f hf => (g.2 f hf).trans (h.2 f hf)⟩
theorem s2_add {b : Nat} {p1 p2 p3 p4 p5 p6 : Int} {L : List Ln} {σ : St} {K : St → Prop} (hL : CL σ b L) (h7 : L.length < 77) (h : ∀ σ' : St, FA σ σ' b → CL σ' b (L ++ [(p1, p2, p3, p4, p5, p6)]) → K σ') : f_X2_add b p1 p2 p3 p4 p5 p6 σ K := by
  unfold f_X2_add
  rw [hL.1]
  refine ⟨⟨by omega, by omega⟩, fun _ => ⟨by omega, ?_⟩, fun q => by omega⟩
  intro s1 e1
  have a1 : s1 b 0 = L.length := by rw [e1, up_c (by omega)]; exact hL.1
  refine ⟨by omega, ?_⟩
  intro s2 e2
  have a2 : s2 b 0 = L.length := by rw [e2, up_c (by omega)]; exact a1
  refine ⟨by omega, ?_⟩
  intro s3 e3
  have a3 : s3 b 0 = L.length := by rw [e3, up_c (by omega)]; exact a2
  refine ⟨by omega, ?_⟩
  intro s4 e4
  have a4 : s4 b 0 = L.length := by rw [e4, up_c (by omega)]; exact a3
  refine ⟨by omega, ?_⟩
  intro s5 e5
  have a5 : s5 b 0 = L.length := by rw [e5, up_c (by omega)]; exact a4
  refine ⟨by omega, ?_⟩
  intro s6 e6
  have a6 : s6 b 0 = L.length := by rw [e6, up_c (by omega)]; exact a5
  intro s7 e7
  rw [a6] at e7
  rw [a5] at e6
  rw [a4] at e5
  rw [a3] at e4
  rw [a2] at e3
  rw [a1] at e2
  refine h _ ⟨fun c hc => ?_, fun f hf => ?_⟩ ⟨?_, fun i x hx => ?_⟩
  · subst e7 e6 e5 e4 e3 e2 e1
    simp (disch := omega) only [up_c]
  · subst e7 e6 e5 e4 e3 e2 e1
    simp (disch := omega) only [up_c, up_i]
  · rw [e7, up_s, List.length_append]; rfl
  · subst e7 e6 e5 e4 e3 e2 e1
    rcases get_snoc hx with ⟨ei, ex⟩ | ⟨hx2, hi⟩
    · subst ei ex
      simp (disch := omega) only [up_c, up_s]
      exact ⟨trivial, trivial, trivial, trivial, trivial, trivial⟩
    · simp (disch := omega) only [up_c, up_i]
      exact hL.2 i x hx2
theorem s2_addKindLines {b r : Nat} {k g : Int} {s : Rw} {v : Int → Bool} {L : List Ln} {σ : St} {K : St → Prop} (hd : Dm s) (k0 : 0 ≤ k) (k1 : k < 12) (hr : RT σ r k (rg s v k)) (hb : r + 6 < b) (hL : CL σ b L) (h7 : L.length + (KL s v k).length ≤ 77) (hg : g = gp s k)
    (h : ∀ σ' : St, FA σ σ' b → CL σ' b (L ++ KL s v k) → K σ') : f_X2_addKindLines b k g r σ K := by
  have ho := rg_ok hd v k
  have hl : (KL s v k).length = (rg s v k).1.toNat := KLn_len
  have o1 := ho.1
  have o2 := ho.2.1
  subst hg
  unfold f_X2_addKindLines
  intro x1 e1
  subst e1
  refine wl1s_inv (fun y τ => ∃ j : Nat, y = k * 6 + j ∧ (j : Int) ≤ (rg s v k).1 ∧ FA σ τ b ∧ CL τ b (L ++ KLn s v k j)) (fun y _ => (k * 6 + (rg s v k).1 - y).toNat) ?_ ⟨0, by omega, by omega, FA.rf, by rw [show KLn s v k 0 = [] from rfl, List.append_nil]; exact hL⟩
  rintro y τ ag ⟨j, hy, hj, hf, hc⟩ hag
  have e3 : τ (r + 3) k = (rg s v k).1 := by rw [hf.1 _ (by omega)]; exact hr.1
  rw [e3]
  refine ⟨⟨k0, k1⟩, ⟨by omega, by omega⟩, ⟨by omega, by omega⟩, fun q => ?_, fun q => ⟨by omega, by omega, by omega, ?_⟩⟩
  · have e : j = (rg s v k).1.toNat := by omega
    subst e
    exact h τ hf hc
  · have hh := hr.2 j (by omega) (by omega)
    rw [hf.1 (r + 4) (by omega), hf.1 (r + 5) (by omega), hf.1 (r + 6) (by omega), hy, hh.1, hh.2.1, hh.2.2]
    refine s2_add hc (by rw [List.length_append, KLn_len]; omega) fun σ2 f2 c2 => hag _ _ ⟨j + 1, by omega, by omega, hf.tr f2, ?_⟩ (by omega)
    rw [KLn_S, ← List.append_assoc]; exact c2
/-! signs of a group, kind by kind -/
def sgN (s : Rw) (v : Int → Bool) (g : Int) : Nat → Nat → Int
  | 0, _ => 0
  | m + 1, n => sgN s v g m n + (if gp s m = g then cN (fun i => v i && decide (kd s i = m)) n else 0)
theorem sgN_0 {s : Rw} {v : Int → Bool} {g : Int} : ∀ m : Nat, sgN s v g m 0 = 0
  | 0 => rfl
  | m + 1 => by
    unfold sgN
    rw [sgN_0 m]
    split <;> rfl
theorem sgN_S {s : Rw} {v : Int → Bool} {g : Int} {n : Nat} (h0 : 0 ≤ kd s n) : ∀ m : Nat, sgN s v g m (n + 1) = sgN s v g m n + b01 (v n && (decide (kd s n < m) && decide (gp s (kd s n) = g)))
  | 0 => by
    rw [decide_eq_false (by omega : ¬ kd s n < (0 : Nat))]
    simp only [Bool.false_and, Bool.and_false]
    rfl
  | m + 1 => by
    have ih := sgN_S (v := v) (g := g) h0 m
    show sgN s v g m (n + 1) + (if gp s m = g then cN (fun i => v i && decide (kd s i = m)) n + b01 (v n && decide (kd s n = m)) else 0) = sgN s v g m n + (if gp s m = g then cN (fun i => v i && decide (kd s i = m)) n else 0) + _
    rw [ih]
    cases e : v n with
    | false =>
      simp only [Bool.false_and, b01, Int.add_zero]
    | true =>
      simp only [Bool.true_and]
      by_cases q : kd s n = m
      · rw [q, decide_eq_false (by omega : ¬ ((m : Int) < m)), decide_eq_true (rfl : (m : Int) = m), decide_eq_true (by omega : (m : Int) < (m + 1 : Nat))]
        by_cases q2 : gp s m = g
        · rw [if_pos q2, if_pos q2, decide_eq_true q2]; simp only [Bool.false_and, Bool.true_and, b01]; omega
        · rw [if_neg q2, if_neg q2, decide_eq_false q2]; simp only [Bool.false_and, Bool.true_and, b01]
      · rw [decide_eq_false q]
        have e2 : decide (kd s n < (m + 1 : Nat)) = decide (kd s n < (m : Nat)) := by
          by_cases q3 : kd s n < m
          · rw [decide_eq_true q3, decide_eq_true (by omega)]
          · rw [decide_eq_false q3, decide_eq_false (by omega)]
        rw [e2]
        split
        · simp only [b01]; omega
        · omega
theorem gs_sum {s : Rw} (hd : Dm s) (v : Int → Bool) (g : Int) : sgN s v g 12 (s 9).toNat = gs s v g := by
  have hn := hd.n
  have key : ∀ n : Nat, (n : Int) ≤ s 9 → sgN s v g 12 n = cN (fun i => v i && decide (gp s (kd s i) = g)) n := by
    intro n
    induction n with
    | zero => intro _; exact sgN_0 12
    | succ n ih =>
      intro h
      have hs := hd.sign n (by omega) (by omega)
      rw [sgN_S (by omega) 12, ih (by omega), decide_eq_true (by omega : kd s n < (12 : Nat)), Bool.true_and]
      rfl
  exact key _ (by omega)
/-! the order of kinds, as it stands -/
def OL (σ : St) (b : Nat) (O : List Int) : Prop := σ b 12 = O.length ∧ ∀ (i : Nat) (x : Int), O[i]? = some x → σ (b + 9) i = x
theorem BD.go {σ τ : St} {b : Nat} {s : Rw} {v : Int → Bool} (h : BD σ b s v) (e : ∀ c : Nat, b + 1 ≤ c → c ≤ b + 6 → τ c = σ c) : BD τ b s v := by
  unfold BD RT
  rw [e (b + 1) (by omega) (by omega), e (b + 3) (by omega) (by omega), e (b + 4) (by omega) (by omega), e (b + 5) (by omega) (by omega), e (b + 6) (by omega) (by omega)]
  exact h
theorem isS_iff {s : Rw} (hd : Dm s) (v : Int → Bool) (k : Int) : isS s v k = true ↔ 0 < (rg s v k).1 := by
  unfold isS
  rw [decide_eq_true_iff]
  exact (rg_pos hd v k).symm
theorem s2_addGroup {b q r : Nat} {g : Int} {s : Rw} {v : Int → Bool} {L : List Ln} {σ : St} {K : St → Prop} (hd : Dm s) (hm : Ms σ q s) (hb : BD σ r s v) (ho : OL σ b (Od s v)) (hq : q + 12 < b) (hr : r + 6 < b) (g0 : 0 ≤ g) (g1 : g < 5) (hL : CL σ b L) (h7 : L.length + (GL s v g).length ≤ 77)
    (h : ∀ σ' : St, FA σ σ' b → CL σ' b (L ++ GL s v g) → K σ') : f_X2_addGroup b q g r σ K := by
  unfold f_X2_addGroup
  refine wl4_inv (fun x1 x2 x3 x4 => (0 ≤ x4 ∧ x4 ≤ 12) ∧ x1 = cI (fun k => decide (gp s k = g)) x4 ∧ x2 = cI (fun k => decide (gp s k = g) && isS s v k) x4 ∧ x3 = sgN s v g x4.toNat (s 9).toNat) (fun _ _ _ x4 => (12 - x4).toNat) ?_ ⟨by omega, rfl, rfl, rfl⟩
  rintro x1 x2 x3 x4 ag ⟨h4, e1, e2, e3⟩ hag
  refine ⟨⟨by omega, by omega⟩, fun q1 => ⟨⟨g0, g1⟩, ?_⟩, fun q1 => ⟨by omega, ?_⟩⟩
  · have e : x4 = 12 := by omega
    subst e
    clear hag
    have ew : σ (q + 10) g = s (10 + g) := hm.way g g0 g1
    have hw := hd.way g g0 g1
    have b1 := cI_bd (fun k => decide (gp s k = g)) (i := 12) (by decide)
    have b2 := cI_bd (fun k => decide (gp s k = g) && isS s v k) (i := 12) (by decide)
    have em1 : x1 = mem' s g := e1
    have em2 : x2 = see s v g := e2
    have em3 : x3 = gs s v g := by rw [e3]; exact gs_sum hd v g
    rw [← e1] at b1
    rw [← e2] at b2
    rw [ew]
    clear e1 e2 e3
    refine wj0_intro (jd s v g = false) (fun hj => ?_) (fun J hJ => ?_)
    · have eG : GL s v g = GH s v g ++ ((Od s v).filter (ing s g)).flatMap (KL s v) := by unfold GL; rw [if_neg (by rw [hj]; simp)]
      rw [eG] at h h7
      refine wj0s_intro (fun τ => FA σ τ b ∧ CL τ b (L ++ GH s v g)) (fun τ ⟨hf, hc⟩ => ?_) (fun J hJ => ⟨⟨by omega, by omega⟩, fun q2 => ?_, fun q2 => ?_⟩)
      · refine wl1s_inv (fun i ρ => ∃ A B : List Int, Od s v = A ++ B ∧ i = A.length ∧ FA σ ρ b ∧ CL ρ b (L ++ (GH s v g ++ (A.filter (ing s g)).flatMap (KL s v)))) (fun i _ => (12 - i).toNat) ?_ ⟨[], Od s v, rfl, rfl, hf, by rw [List.filter_nil, List.flatMap_nil, List.append_nil]; exact hc⟩
        rintro i ρ ag ⟨A, B, eO, ei, hf2, hc2⟩ hag
        have hl := Od_len (s := s) (v := v)
        have e12 : ρ b 12 = (Od s v).length := by rw [hf2.2 12 (by decide)]; exact ho.1
        rw [eO, List.length_append] at hl e12
        rw [e12]
        refine ⟨⟨by omega, by omega⟩, ⟨by omega, by omega⟩, fun q2 => ?_, fun q2 => ⟨by omega, ?_⟩⟩
        · have eB : B = [] := List.eq_nil_of_length_eq_zero (by omega)
          rw [eB, List.append_nil] at eO
          rw [eO] at h
          exact h ρ hf2 hc2
        · match B, eO, e12, hl, q2 with
          | [], _, _, _, q2 => exact absurd (by show (i : Int) ≥ ((A.length + 0 : Nat) : Int); omega) q2
          | k :: B, eO, e12, hl, q2 =>
          have hk := (Od_mem (s := s) (v := v) (x := k)).mp (by rw [eO]; exact List.mem_append_right _ List.mem_cons_self)
          have e9 : ρ (b + 9) i = k := by rw [hf2.1 _ (by omega), ei]; exact ho.2 A.length k (by rw [eO]; exact get_mid)
          have eg : ρ (q + 7) k = gp s k := by rw [hf2.1 _ (by omega)]; exact (hm.kind k hk.1 hk.2.1).2.1
          have hgk := (hd.kind k hk.1 hk.2.1).2.1
          rw [e9, eg]
          have eO2 : Od s v = (A ++ [k]) ++ B := by rw [eO]; simp
          have ei2 : i + 1 = ((A ++ [k]).length : Nat) := by rw [ei, List.length_append]; rfl
          refine ⟨⟨hk.1, hk.2.1⟩, ⟨by omega, by omega⟩, ⟨by omega, by omega⟩, fun q3 => ?_, fun q3 => ⟨by omega, ?_⟩⟩
          · refine hag _ _ ⟨A ++ [k], B, eO2, ei2, hf2, ?_⟩ (by omega)
            have e : [k].filter (ing s g) = [] := by rw [List.filter_cons, if_neg (by unfold ing; rw [decide_eq_false q3]; simp)]; rfl
            rw [List.filter_append, e, List.append_nil]; exact hc2
          · have q3 : gp s k = g := Decidable.not_not.mp q3
            have e : [k].filter (ing s g) = [k] := by rw [List.filter_cons, if_pos (by unfold ing; rw [decide_eq_true q3])]; rfl
            have e4 : ((A ++ [k]).filter (ing s g)).flatMap (KL s v) = (A.filter (ing s g)).flatMap (KL s v) ++ KL s v k := by
              rw [List.filter_append, e, List.flatMap_append]
              congr 1
              rw [List.flatMap_cons, List.flatMap_nil, List.append_nil]
            have e5 : ((Od s v).filter (ing s g)).flatMap (KL s v) = ((A ++ [k]).filter (ing s g)).flatMap (KL s v) ++ (B.filter (ing s g)).flatMap (KL s v) := by rw [eO2, List.filter_append, List.flatMap_append]
            rw [e5, e4] at h7
            simp only [List.length_append] at h7
            have hb2 := (hb k hk.1 hk.2.1).2
            refine s2_addKindLines hd hk.1 hk.2.1 (v := v) ⟨by rw [hf2.1 _ (by omega)]; exact hb2.1, by rw [hf2.1 _ (by omega), hf2.1 _ (by omega), hf2.1 _ (by omega)]; exact hb2.2⟩ hr hc2 (by simp only [List.length_append]; omega) q3.symm fun σ2 f2 c2 => ?_
            refine hag _ _ ⟨A ++ [k], B, eO2, ei2, hf2.tr f2, ?_⟩ (by omega)
            rw [e4]
            simp only [List.append_assoc] at c2 ⊢
            exact c2
      · refine hJ _ ⟨FA.rf, ?_⟩
        unfold GH
        rw [if_neg (by omega), List.append_nil]; exact hL
      · have e : GH s v g = [((1, -1, g, -1, -1, 0) : Ln)] := by unfold GH; rw [if_pos (by omega)]
        rw [e] at h7 hJ
        simp only [List.length_append, List.length_cons, List.length_nil] at h7
        exact s2_add hL (by omega) fun σ2 f2 c2 => hJ _ ⟨f2, c2⟩
    · have hno : ¬ (s (10 + g) = 1 ∧ 2 ≤ see s v g ∧ see s v g = mem' s g) → J := fun z => hJ (decide_eq_false z)
      refine ⟨⟨by omega, by omega⟩, fun q2 => hno (by omega), fun q2 => ⟨⟨by omega, by omega⟩, fun q3 => hno (by omega), fun q3 => ⟨⟨by omega, by omega⟩, ⟨by omega, by omega⟩, fun q4 => hno (by omega), fun q4 => ?_⟩⟩⟩
      have e : GL s v g = [((2, -1, g, -1, -1, gs s v g) : Ln)] := by
        unfold GL
        rw [if_pos (show jd s v g = true from decide_eq_true (by omega))]
      rw [e] at h h7
      simp only [List.length_cons, List.length_nil] at h7
      rw [em3]
      exact s2_add hL (by omega) h
  · have eg : σ (q + 7) x4 = gp s x4 := (hm.kind x4 h4.1 (by omega)).2.1
    have hgk := (hd.kind x4 h4.1 (by omega)).2.1
    have hbk := hb x4 h4.1 (by omega)
    have hok := rg_ok hd v x4
    have ho1 := hok.1
    have ho2 := hok.2.1
    have eN : (x4 + 1).toNat = x4.toNat + 1 := by omega
    have eN2 : ((x4.toNat : Nat) : Int) = x4 := by omega
    have e6 : sgN s v g (x4 + 1).toNat (s 9).toNat = sgN s v g x4.toNat (s 9).toNat + (if gp s x4 = g then tot s v x4 else 0) := by
      rw [eN]
      show sgN s v g x4.toNat (s 9).toNat + (if gp s (x4.toNat : Nat) = g then cN (fun i => v i && decide (kd s i = (x4.toNat : Nat))) (s 9).toNat else 0) = _
      rw [eN2]; rfl
    rw [eg, hbk.1, hbk.2.1]
    refine ⟨⟨by omega, by omega⟩, ⟨by omega, by omega⟩, fun q2 => ?_, fun q2 => ⟨by omega, ?_⟩⟩
    · refine hag _ _ _ _ ⟨by omega, ?_, ?_, ?_⟩ (by omega)
      · rw [cI_S _ h4.1, decide_eq_false q2, e1]; simp only [b01, Int.add_zero]
      · rw [cI_S _ h4.1, decide_eq_false q2, e2]; simp only [Bool.false_and, b01, Int.add_zero]
      · rw [e6, if_neg q2, Int.add_zero]; exact e3
    · have q2 : gp s x4 = g := Decidable.not_not.mp q2
      refine wj1_intro (fun y => y = b01 (isS s v x4)) (fun y hy => ?_) (fun J hJ => ⟨⟨by omega, by omega⟩, fun q3 => ?_, fun q3 => ?_⟩)
      · intro x15 e15
        refine ⟨by omega, ?_⟩
        intro x16 e16
        refine hag _ _ _ _ ⟨by omega, ?_, ?_, ?_⟩ (by omega)
        · rw [cI_S _ h4.1, decide_eq_true q2, e1]; rfl
        · rw [cI_S _ h4.1, decide_eq_true q2, Bool.true_and, ← e2, ← hy]; exact e15
        · rw [e6, if_pos q2, ← e3]; exact e16
      · refine hJ _ (b01_f ?_).symm
        cases e : isS s v x4 with
        | false => rfl
        | true => have := (isS_iff hd v x4).mp e; omega
      · exact hJ _ (b01_t ((isS_iff hd v x4).mpr (by omega))).symm
