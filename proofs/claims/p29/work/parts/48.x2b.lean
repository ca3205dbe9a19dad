/-! ===== the class's lines: order, blocks ===== -/
theorem s2_orderKinds {b q r : Nat} {s : Rw} {v : Int → Bool} {σ : St} {K : St → Prop} (hd : Dm s) (hm : Ms σ q s) (hb : BD σ r s v) (hq : q + 12 < b) (hr : r + 6 < b)
    (h : ∀ σ' : St, (∀ c : Nat, c ≠ b → c ≠ b + 9 → σ' c = σ c) → (∀ f : Int, f ≠ 12 → σ' b f = σ b f) → OL σ' b (Od s v) → K σ') : f_X2_orderKinds b q r σ K := by
  unfold f_X2_orderKinds
  intro s1 e1
  refine wl1s_inv (fun i τ => (0 ≤ i ∧ i ≤ 12) ∧ ((∀ c : Nat, c ≠ b → c ≠ b + 9 → τ c = σ c) ∧ (∀ f : Int, f ≠ 12 → τ b f = σ b f)) ∧ OL τ b (ordN s v i.toNat)) (fun i _ => (12 - i).toNat) ?_ ⟨by omega, ⟨fun c h1 h2 => by rw [e1, up_c h1], fun f hf => by rw [e1, up_i hf]⟩, by rw [e1, up_s]; rfl, fun i x hx => absurd (get_lt hx) (Nat.not_lt_zero _)⟩
  rintro i τ ag ⟨hi, hf, ho⟩ hag
  refine ⟨⟨by omega, by omega⟩, fun q1 => ?_, fun q1 => ⟨by omega, ?_⟩⟩
  · have e : i = 12 := by omega
    subst e
    exact h τ hf.1 hf.2 ho
  have hbk := hb i hi.1 (by omega)
  have hok := rg_ok hd v i
  have ho1 := hok.1
  have ho2 := hok.2.1
  have e3 : τ (r + 3) i = (rg s v i).1 := by rw [hf.1 _ (by omega) (by omega)]; exact hbk.2.1
  have eN : (i + 1).toNat = i.toNat + 1 := by omega
  have eN2 : ((i.toNat : Nat) : Int) = i := by omega
  have eo : ordN s v (i + 1).toNat = if isS s v i = true then insK s i (ordN s v i.toNat) else ordN s v i.toNat := by
    rw [eN]
    show (if isS s v (i.toNat : Nat) = true then insK s (i.toNat : Nat) (ordN s v i.toNat) else ordN s v i.toNat) = _
    rw [eN2]
  rw [e3]
  clear hok
  refine ⟨⟨by omega, by omega⟩, fun q2 => ?_, fun q2 => ?_⟩
  · refine hag _ _ ⟨by omega, hf, ?_⟩ (by omega)
    rw [eo, if_neg (fun z => by have := (isS_iff hd v i).mp z; omega)]
    exact ho
  · rw [if_pos ((isS_iff hd v i).mpr (by omega))] at eo
    intro x4 e4
    rw [ho.1] at e4
    refine wl1s_inv (fun x ρ => ∃ A B : List Int, ordN s v i.toNat = A ++ B ∧ x = A.length ∧ ((∀ c : Nat, c ≠ b → c ≠ b + 9 → ρ c = σ c) ∧ (∀ f : Int, f ≠ 12 → ρ b f = σ b f)) ∧ ρ b 12 = ((ordN s v i.toNat).length : Nat) ∧ (∀ (j : Nat) (y : Int), A[j]? = some y → ρ (b + 9) j = y) ∧ (∀ (j : Nat) (y : Int), B[j]? = some y → ρ (b + 9) (A.length + 1 + j) = y) ∧ ∀ y ∈ B, rk s i < rk s y) (fun x _ => x.toNat) ?_ ⟨ordN s v i.toNat, [], (List.append_nil _).symm, e4, hf, ho.1, ho.2, fun j y hy => absurd (get_lt hy) (Nat.not_lt_zero _), fun y hy => absurd hy List.not_mem_nil⟩
    clear e4 ho hf
    rintro x ρ ag2 ⟨A, B, eO, ex, hf2, e12, hA, hB, hlt⟩ hag2
    have hlen := ordN_len (s := s) (v := v) i.toNat
    have hsort := ordN_sorted (s := s) (v := v) i.toNat
    rw [eO, List.length_append] at hlen
    rw [eO, List.pairwise_append] at hsort
    have hmem : ∀ y ∈ A, 0 ≤ y ∧ y < 12 := fun y hy => by
      have := (ordN_mem (s := s) (v := v) i.toNat).mp (by rw [eO]; exact List.mem_append_left _ hy : y ∈ ordN s v i.toNat)
      omega
    refine wj0_intro (∀ y ∈ A, rk s y ≤ rk s i) (fun hP => ⟨by omega, ?_⟩) (fun J hJ => ⟨⟨by omega, by omega⟩, fun q3 => hJ ?_, fun q3 => ⟨by omega, ?_⟩⟩)
    · intro s9 e9 s10 e10
      have e11 : s9 b 12 = ((ordN s v i.toNat).length : Nat) := by rw [e9, up_c (by omega)]; exact e12
      rw [e11] at e10
      have ei : insK s i (ordN s v i.toNat) = A ++ i :: B := by rw [eO]; exact insK_split hlt hP
      refine hag _ _ ⟨by omega, ⟨fun c h1 h2 => ?_, fun f hf3 => ?_⟩, ?_⟩ (by omega)
      · rw [e10, up_c h1, e9, up_c h2]; exact hf2.1 c h1 h2
      · rw [e10, up_i hf3, e9, up_c (by omega)]; exact hf2.2 f hf3
      · rw [eo, ei]
        refine ⟨?_, fun j y hy => ?_⟩
        · rw [e10, up_s, eO]; simp only [List.length_append, List.length_cons]; omega
        · rw [e10, up_c (by omega), e9]
          rw [List.getElem?_append] at hy
          split at hy
          · rename_i hj
            rw [up_i (by omega)]; exact hA j y hy
          · rename_i hj
            cases e : j - A.length with
            | zero =>
              rw [e] at hy
              have e2 : i = y := by simpa using hy
              have ej : (j : Int) = x := by omega
              rw [ej, up_s]; exact e2
            | succ n =>
              rw [e, List.getElem?_cons_succ] at hy
              have e2 := hB n y hy
              have ej : (j : Int) = (A.length : Int) + 1 + n := by omega
              rw [up_i (by omega), ej]; exact e2
    · have e : A = [] := List.eq_nil_of_length_eq_zero (by omega)
      rw [e]; exact fun y hy => absurd hy List.not_mem_nil
    · rcases snoc_of A with eA | ⟨A2, a, eA⟩
      · rw [eA] at ex
        exact absurd (by rw [ex]; exact Int.le_refl _ : x ≤ 0) q3
      · subst eA
        have exl : x = (A2.length : Int) + 1 := by rw [ex, List.length_append]; rfl
        have ea : ρ (b + 9) (x - 1) = a := by
          have e := hA A2.length a get_mid
          have e2 : x - 1 = (A2.length : Nat) := by omega
          rw [e2]; exact e
        have ha := hmem a (List.mem_append_right _ (List.mem_singleton.mpr rfl))
        have er : ρ (q + 6) a = rk s a := by rw [hf2.1 _ (by omega) (by omega)]; exact (hm.kind a ha.1 ha.2).1
        have er2 : ρ (q + 6) i = rk s i := by rw [hf2.1 _ (by omega) (by omega)]; exact (hm.kind i hi.1 (by omega)).1
        have hra := (hd.kind a ha.1 ha.2).1
        have hri := (hd.kind i hi.1 (by omega)).1
        rw [ea, er, er2]
        refine ⟨by omega, by omega, ⟨by omega, by omega⟩, ⟨by omega, by omega⟩, fun q4 => hJ ?_, fun q4 => ⟨by omega, by omega, ?_⟩⟩
        · intro y hy
          rcases List.mem_append.mp hy with h1 | h1
          · have e := (List.pairwise_append.mp hsort.1).2.2 y h1 a (List.mem_singleton.mpr rfl)
            unfold ltk at e
            omega
          · rw [List.mem_singleton.mp h1]; exact q4
        · intro s8 e8
          have el : ((A2 ++ [a]).length : Int) = A2.length + 1 := by rw [List.length_append]; rfl
          refine hag2 _ _ ⟨A2, a :: B, by rw [eO]; simp, by omega, ⟨fun c h1 h2 => ?_, fun f hf3 => ?_⟩, ?_, fun j y hy => ?_, fun j y hy => ?_, fun y hy => ?_⟩ (by omega)
          · rw [e8, up_c h2]; exact hf2.1 c h1 h2
          · rw [e8, up_c (by omega)]; exact hf2.2 f hf3
          · rw [e8, up_c (by omega)]; exact e12
          · have hj := get_lt hy
            rw [e8, up_i (by omega)]
            exact hA j y (by rw [List.getElem?_append_left hj]; exact hy)
          · cases j with
            | zero =>
              have e2 : a = y := by simpa using hy
              have ej : (A2.length : Int) + 1 + (0 : Nat) = x := by omega
              rw [ej, e8, up_s]; exact e2
            | succ n =>
              rw [List.getElem?_cons_succ] at hy
              have e2 := hB n y hy
              rw [el] at e2
              have ej : (A2.length : Int) + 1 + (n + 1 : Nat) = A2.length + 1 + 1 + n := by omega
              rw [e8, up_i (by omega), ej]; exact e2
          · rcases List.mem_cons.mp hy with e | e
            · rw [e]; omega
            · exact hlt y e
theorem s2_compose {b q r : Nat} {s : Rw} {v : Int → Bool} {σ : St} {K : St → Prop} (hd : Dm s) (hm : Ms σ q s) (hb : BD σ r s v) (hq : q + 12 < b) (hr : r + 6 < b)
    (h : ∀ σ' : St, (∀ c : Nat, c < b ∨ b + 10 < c ∨ c = b + 7 ∨ c = b + 8 → σ' c = σ c) → (∀ f : Int, f ≠ 0 → f ≠ 12 → σ' b f = σ b f) → CL σ' b (Lns s v) → K σ') : f_X2_compose b q r σ K := by
  unfold f_X2_compose
  intro s1 e1
  refine s2_orderKinds (s := s) (v := v) hd (hm.go fun c h1 h2 => by rw [e1, up_c (by omega)]) (hb.go fun c h1 h2 => by rw [e1, up_c (by omega)]) hq hr fun σ2 f1 f2 o2 => ?_
  have c0 : σ2 b 0 = 0 := by rw [f2 0 (by decide), e1, up_s]
  refine wl1s_inv (fun i τ => (0 ≤ i ∧ i ≤ 5) ∧ (∀ c : Nat, c ≠ b + 10 → τ c = σ2 c) ∧ ∀ g : Int, 0 ≤ g → g < i → τ (b + 10) g = 0) (fun i _ => (5 - i).toNat) ?_ ⟨by omega, fun _ _ => rfl, fun g g0 g1 => by omega⟩
  rintro i τ ag ⟨hi, hf, hz⟩ hag
  refine ⟨⟨by omega, by omega⟩, fun q1 => ?_, fun q1 => ⟨by omega, ?_⟩⟩
  · have e : i = 5 := by omega
    subst e
    clear hag q1 hi
    refine wl1s_inv (fun i ρ => ∃ (A B : List Int) (D : Int → Bool) (L : List Ln), Od s v = A ++ B ∧ i = A.length ∧ (∀ g : Int, 0 ≤ g → g < 5 → ρ (b + 10) g = b01 (D g)) ∧ PD s D A ∧ (∀ c : Nat, c < b ∨ b + 10 < c ∨ c = b + 7 ∨ c = b + 8 ∨ c = b + 9 → ρ c = σ2 c) ∧ (∀ f : Int, f ≠ 0 → ρ b f = σ2 b f) ∧ CL ρ b L ∧ L ++ em s v B D = Lns s v) (fun i _ => (12 - i).toNat) ?_ ⟨[], Od s v, fun _ => false, [], rfl, rfl, fun g g0 g1 => hz g g0 g1, fun x hx => absurd hx List.not_mem_nil, fun c hc => hf c (by omega), fun f hf3 => by rw [hf b (by omega)], ⟨by rw [hf b (by omega)]; exact c0, fun i x hx => absurd (get_lt hx) (Nat.not_lt_zero _)⟩, rfl⟩
    rintro i ρ ag ⟨A, B, D, L, eO, ei, hD, hP, hc, hbf, hL, eE⟩ hag
    have hl := Od_len (s := s) (v := v)
    have hl2 := Lns_len hd v
    have e12 : ρ b 12 = (Od s v).length := by rw [hbf 12 (by decide)]; exact o2.1
    rw [eO, List.length_append] at hl e12
    rw [e12]
    have hm2 : Ms ρ q s := hm.go fun c h1 h2 => by rw [hc c (by omega), f1 c (by omega) (by omega), e1, up_c (by omega)]
    have hb2 : BD ρ r s v := hb.go fun c h1 h2 => by rw [hc c (by omega), f1 c (by omega) (by omega), e1, up_c (by omega)]
    refine ⟨⟨by omega, by omega⟩, ⟨by omega, by omega⟩, fun q2 => ?_, fun q2 => ⟨by omega, ?_⟩⟩
    · have eB : B = [] := List.eq_nil_of_length_eq_zero (by omega)
      rw [eB] at eE
      have eE2 : L = Lns s v := by rw [← eE]; exact (List.append_nil _).symm
      refine h ρ (fun c hc2 => ?_) (fun f hf0 hf12 => ?_) (by rw [← eE2]; exact hL)
      · rw [hc c (by omega), f1 c (by omega) (by omega), e1, up_c (by omega)]
      · rw [hbf f hf0, f2 f hf12, e1, up_i hf0]
    · match B, eO, e12, hl, q2, eE with
      | [], _, _, _, q2, _ => exact absurd (by show (i : Int) ≥ ((A.length + 0 : Nat) : Int); omega) q2
      | k :: B, eO, e12, hl, q2, eE =>
      have hk := (Od_mem (s := s) (v := v) (x := k)).mp (by rw [eO]; exact List.mem_append_right _ List.mem_cons_self)
      have e9 : ρ (b + 9) i = k := by rw [hc _ (by omega), ei]; exact o2.2 A.length k (by rw [eO]; exact get_mid)
      have hgk := (hd.kind k hk.1 hk.2.1).2.1
      have eO2 : Od s v = (A ++ [k]) ++ B := by rw [eO]; simp
      have ei2 : i + 1 = ((A ++ [k]).length : Nat) := by rw [ei, List.length_append]; rfl
      have e9b : i = ((A.length : Nat) : Int) := ei
      intro x7 e7
      rw [e9] at e7
      subst e7
      refine ⟨⟨hk.1, hk.2.1⟩, ?_⟩
      intro x8 e8
      rw [(hm2.kind x7 hk.1 hk.2.1).2.1] at e8
      subst e8
      unfold em at eE
      refine wj0_intro (gp s x7 = -1) (fun hg => ?_) (fun J hJ => ⟨⟨by omega, by omega⟩, fun q3 => hJ (by omega), fun q3 => ⟨⟨by omega, by omega⟩, fun _ => ⟨⟨by omega, by omega⟩, sp4 (hD _ (by omega) (by omega)) (fun t => ?_) (fun t => ⟨⟨by omega, by omega⟩, ?_⟩)⟩, fun q4 => by omega⟩⟩)
      · rw [if_pos hg] at eE
        rw [← eE] at hl2
        simp only [List.length_append] at hl2
        refine s2_addKindLines hd hk.1 hk.2.1 (hb2 x7 hk.1 hk.2.1).2 hr hL (by omega) hg.symm fun σ3 f3 c3 => ?_
        refine hag _ _ ⟨A ++ [x7], B, D, L ++ KL s v x7, eO2, ei2, fun g g0 g1 => ?_, hP.add (Or.inl hg), fun c h2 => ?_, fun f h2 => ?_, c3, ?_⟩ (by omega)
        · rw [f3.1 _ (by omega)]; exact hD g g0 g1
        · rw [f3.1 _ (by omega)]; exact hc c h2
        · rw [f3.2 f h2]; exact hbf f h2
        · rw [List.append_assoc]; exact eE
      · rw [if_neg (by omega), if_pos t] at eE
        exact hag _ _ ⟨A ++ [x7], B, D, L, eO2, ei2, hD, hP.add (Or.inr t), hc, hbf, hL, eE⟩ (by omega)
      · rw [if_neg (by omega), if_neg (by rw [t]; simp)] at eE
        intro s10 e10
        have hL10 : CL s10 b L := hL.go (by rw [e10, up_c (by omega)]) (fun c h1 h2 => by rw [e10, up_c (by omega)])
        rw [← eE] at hl2
        simp only [List.length_append] at hl2
        refine s2_addGroup hd (hm2.go fun c h1 h2 => by rw [e10, up_c (by omega)]) (hb2.go fun c h1 h2 => by rw [e10, up_c (by omega)]) ⟨by rw [e10, up_c (by omega), hbf 12 (by decide)]; exact o2.1, by rw [e10, up_c (by omega), hc _ (by omega)]; exact o2.2⟩ hq hr (by omega) (by omega) hL10 (by omega) fun σ3 f3 c3 => ?_
        refine hag _ _ ⟨A ++ [x7], B, addD D (gp s x7), L ++ GL s v (gp s x7), eO2, ei2, fun g g0 g1 => ?_, hP.grow, fun c h2 => ?_, fun f h2 => ?_, c3, ?_⟩ (by omega)
        · rw [f3.1 _ (by omega), e10]
          unfold addD
          by_cases q5 : g = gp s x7
          · rw [q5, up_s, decide_eq_true rfl, Bool.or_true]; rfl
          · rw [up_i q5, decide_eq_false q5, Bool.or_false]; exact hD g g0 g1
        · rw [f3.1 _ (by omega), e10, up_c (by omega)]; exact hc c h2
        · rw [f3.2 f h2, e10, up_c (by omega)]; exact hbf f h2
        · rw [List.append_assoc]; exact eE
  · intro s13 e13
    refine hag _ _ ⟨by omega, fun c h1 => ?_, fun g g0 g1 => ?_⟩ (by omega)
    · rw [e13, up_c h1]; exact hf c h1
    · rw [e13]
      by_cases q2 : g = i
      · rw [q2, up_s]
      · rw [up_i q2]; exact hz g g0 (by omega)
