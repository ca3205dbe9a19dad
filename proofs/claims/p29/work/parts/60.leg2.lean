/-! ===== the law: the legend ===== -/
theorem cod_inj {x y : Ln} (hx : Sm x) (hy : Sm y) (h : cod x = cod y) : p5 x = p5 y := by
  obtain ⟨a1, a2, a3, a4, a5, -⟩ := hx
  obtain ⟨b1, b2, b3, b4, b5, -⟩ := hy
  unfold cod at h
  have e1 : x.1 = y.1 := by omega
  have e2 : x.2.1 = y.2.1 := by omega
  have e3 : x.2.2.1 = y.2.2.1 := by omega
  have e4 : x.2.2.2.1 = y.2.2.2.1 := by omega
  have e5 : x.2.2.2.2.1 = y.2.2.2.2.1 := by omega
  unfold p5
  rw [e1, e2, e3, e4, e5]
theorem cod_p5 {x y : Ln} (h : p5 x = p5 y) : cod x = cod y := by
  have e1 : x.1 = y.1 := congrArg (fun t => t.1) h
  have e2 : x.2.1 = y.2.1 := congrArg (fun t => t.2.1) h
  have e3 : x.2.2.1 = y.2.2.1 := congrArg (fun t => t.2.2.1) h
  have e4 : x.2.2.2.1 = y.2.2.2.1 := congrArg (fun t => t.2.2.2.1) h
  have e5 : x.2.2.2.2.1 = y.2.2.2.2.1 := congrArg (fun t => t.2.2.2.2) h
  unfold cod
  rw [e1, e2, e3, e4, e5]
/-- the law's legend of a row -/
def XS (σ : St) (s : Rw) : Prop := σ 164 1 = (NN s : Int) + 1 ∧ σ 164 2 = b01 (same s (NN s)) ∧ LX σ (LF s) ∧ BXL σ (xF s) ∧ σ 164 3 = (BSn (vF s) 12 : Nat) ∧ σ 164 9 = (LL s 0).length
theorem XS.go {σ τ : St} {s : Rw} (h : XS σ s) (e : τ 164 = σ 164) : XS τ s := by
  unfold XS LX BXL at *
  rw [e]
  exact h
theorem vv_Vs {s : Rw} {n : Nat} : Vs s (vv s n) := fun _ h => sgt_lt h
theorem LL_len4 {s : Rw} (hs : SL s) (n : Nat) : (LL s n).length ≤ 29 := Lns_len4 hs _
theorem vv_law {s : Rw} (n : Nat) : (fun k => shw s k && !(shw s k && cov s (xs s n) k)) = vv s n := by
  funext k
  unfold vv sgt shw
  cases decide (k < s 9) <;> cases sh' s k <;> cases cov s (xs s n) k <;> rfl
theorem sL_legend {s : Rw} {σ : St} {K : St → Prop} (hr : RW σ s) (hs : SL s) (h : ∀ τ : St, (∀ c : Nat, c ≠ 164 → c ≠ 165 → c ≠ 166 → τ c = σ c) → XS τ s → K τ) : f_L_legend σ K := by
  have hd := hs.d
  unfold f_L_legend
  intro s1 e1 s2 e2 s3 e3 s4 e4
  have z1 : ∀ c : Nat, c ≠ 165 → s1 c = σ c := fun c hc => by rw [e1]; funext i; unfold zr; rw [if_neg hc]
  refine wl0s_invB 9 (fun τ => ∃ j : Nat, j ≤ 8 ∧ τ 164 1 = j ∧ BXL τ (xs s j) ∧ τ 164 2 = (if 2 ≤ j then b01 (same s (j - 1)) else 0) ∧ (1 ≤ j → LX τ (LL s (j - 1)) ∧ τ 164 3 = (BSn (vv s (j - 1)) 12 : Nat) ∧ τ 164 9 = (LL s 0).length) ∧ (2 ≤ j → nf s (8 - j) (j - 1) = NN s) ∧ ∀ c : Nat, c ≠ 164 → c ≠ 165 → c ≠ 166 → τ c = σ c) (fun τ => (8 - τ 164 1).toNat) ?_ ⟨0, by omega, by rw [e4, up_i (by decide), e3, up_i (by decide), e2, up_s]; rfl, ⟨by rw [e4, up_s]; rfl, fun z => absurd rfl z⟩, by rw [e4, up_i (by decide), e3, up_s]; rfl, fun z => by omega, fun z => by omega, fun c c1 c2 c3 => by rw [e4, up_c c1, e3, up_c c1, e2, up_c c1]; exact z1 c c2⟩ (by rw [e4, up_i (by decide), e3, up_i (by decide), e2, up_s]; decide)
  clear e1 e2 e3 e4 z1
  rintro τ ag ⟨j, hj, t1, tb, t2, tl, tn, tc⟩ hag
  rw [t1, t2]
  have hx2 : Rg (if 2 ≤ j then b01 (same s (j - 1)) else 0) := by
    split
    · exact b01_rg _
    · decide
  refine ⟨⟨by omega, by omega⟩, fun q => ?_, fun q => ⟨hx2, fun q2 => ?_, fun q2 => ?_⟩⟩
  · have ej : j = 8 := by omega
    subst ej
    have hl := tl (by omega)
    have en : 7 = NN s := tn (by omega)
    refine h τ tc ⟨by rw [t1, ← en]; rfl, by rw [t2, ← en]; rfl, ?_, ?_, ?_, hl.2.2⟩
    · unfold LF; rw [← en]; exact hl.1
    · unfold xF; rw [← en]; exact tb
    · unfold vF; rw [← en]; exact hl.2.1
  · have hj2 : 2 ≤ j := by
      refine Classical.byContradiction fun z => q2 ?_
      rw [if_neg z]
    rw [if_pos hj2] at t2 q2
    have hsm := b01_n.mp q2
    have hl := tl (by omega)
    have en : j - 1 = NN s := by rw [← tn hj2, nf_same hsm]
    have ej : j = NN s + 1 := by omega
    refine h τ tc ⟨by rw [t1, ej]; rfl, by rw [t2, en], ?_, ?_, ?_, hl.2.2⟩
    · unfold LF; rw [← en]; exact hl.1
    · unfold xF; rw [← ej]; exact tb
    · unfold vF; rw [← en]; exact hl.2.1
  · have q2 := Decidable.not_not.mp q2
    have hns : 2 ≤ j → same s (j - 1) = false := fun z => by rw [if_pos z] at q2; exact b01_0.mp q2
    refine wl1s_inv (fun x ρ => (0 ≤ x ∧ x ≤ 64) ∧ (∀ c : Nat, c ≠ 165 → ρ c = τ c) ∧ ∀ i : Int, 0 ≤ i → i < x → ρ 165 i = τ 164 i) (fun x _ => (64 - x).toNat) ?_ ⟨by decide, fun _ _ => rfl, fun i i0 i1 => by omega⟩
    rintro x ρ ag35 ⟨hx, rc, ro⟩ hag35
    refine ⟨⟨by omega, by omega⟩, fun z => ?_, fun z => ⟨by omega, by omega, fun s24 e24 => hag35 _ _ ⟨by omega, fun c hc => by rw [e24, up_c hc]; exact rc c hc, fun i i0 i1 => ?_⟩ (by omega)⟩⟩
    rotate_left
    · by_cases u : i = x
      · rw [u, e24, up_s, rc 164 (by decide)]
      · rw [e24, up_i u]; exact ro i i0 (by omega)
    · have ex : x = 64 := by omega
      subst ex
      clear hag35 ag35 z hx
      have r7 : RW ρ s := hr.go (by rw [rc _ (by decide), tc _ (by decide) (by decide) (by decide)]) (by rw [rc _ (by decide), tc _ (by decide) (by decide) (by decide)]) (by rw [rc _ (by decide), tc _ (by decide) (by decide) (by decide)])
      have b7 : BXL ρ (xs s j) := tb.go fun i _ _ => by rw [rc 164 (by decide)]
      refine sL_shown r7 hs (sL_covered r7 hs b7 (xs_ok hd j) ?_)
      rw [bN_BS, vv_law]
      intro s10 e10
      have r10 : RW s10 s := r7.go (by rw [e10, up_c (by decide)]) (by rw [e10, up_c (by decide)]) (by rw [e10, up_c (by decide)])
      refine sL_lists r10 hs (vv_Vs (n := j)) (by rw [e10, up_s]) fun s11 F11 L11 => ?_
      have L11 : LX s11 (LL s j) := L11
      have hlen := LL_len4 hs j
      have hsmj := LL_sm hd j
      have r11 : RW s11 s := r10.go (F11.1 _ (by decide) (by decide)) (F11.1 _ (by decide) (by decide)) (F11.1 _ (by decide) (by decide))
      refine sL_box r11 hs L11 (by omega) hsmj fun s12 F12 B12 => ?_
      intro s13 e13
      have c13 : ∀ c : Nat, c ≠ 164 → c ≠ 166 → s13 c = ρ c := fun c c1 c2 => by rw [e13, up_c c1, F12.1 c c1, F11.1 c c1 c2, e10, up_c c1]
      have x13 : ∀ i : Int, i ≠ 0 → i ≠ 1 → i ≠ 3 → i < 4 ∨ i = 9 → s13 164 i = τ 164 i := fun i i0 i1 i3 i4 => by
        rw [e13, up_i i1, F12.2 i (by omega), F11.2 i (by omega) i0, e10, up_i i3, rc 164 (by decide)]
      have n1 : s13 164 1 = (j : Int) + 1 := by
        rw [e13, up_s, F12.2 1 (by decide), F11.2 1 (by decide) (by decide), e10, up_i (by decide), rc 164 (by decide), t1]
      have L13 : LX s13 (LL s j) := L11.go (by rw [e13, up_i (by decide)]; exact F12.2 0 (by decide)) (fun i i0 _ => by rw [e13, up_i (by omega)]; exact F12.2 i (by omega))
      have B13 : BXL s13 (xs s (j + 1)) := B12.go fun i i0 i1 => by rw [e13, up_i (by omega)]
      have s13_3 : s13 164 3 = (BSn (vv s j) 12 : Nat) := by rw [e13, up_i (by decide), F12.2 3 (by decide), F11.2 3 (by decide) (by decide), e10, up_s]
      have o0 : s13 165 0 = τ 164 0 := by rw [c13 165 (by decide) (by decide)]; exact ro 0 (by decide) (by decide)
      have oi : ∀ i : Nat, i < 54 → s13 165 (10 + i) = τ 164 (10 + i) := fun i hi => by rw [c13 165 (by decide) (by decide)]; exact ro _ (by omega) (by omega)
      rw [n1, L13.1]
      -- the same lines as before, up to i
      have hSm : ∀ (i : Nat), i < (LL s j).length → ∃ x, (LL s j)[i]? = some x ∧ Sm x := fun i hi => ⟨_, List.getElem?_eq_getElem hi, hsmj _ (List.getElem_mem hi)⟩
      refine wj1_intro (fun y => y = b01 (decide (1 ≤ j ∧ (LL s j).length = (LL s (j - 1)).length))) (fun x16 h16 => ?_) (fun J hJ => ?_)
      · refine wl2_inv (fun a i => (0 ≤ i ∧ i ≤ (LL s j).length) ∧ ∃ B : Bool, a = b01 B ∧ (B = true ↔ (1 ≤ j ∧ (LL s j).length = (LL s (j - 1)).length ∧ ∀ (m : Nat) (x y : Ln), (m : Int) < i → (LL s j)[m]? = some x → (LL s (j - 1))[m]? = some y → p5 x = p5 y))) (fun _ i => (((LL s j).length : Int) - i).toNat) ?_ ⟨by omega, _, h16, by rw [decide_eq_true_iff]; exact ⟨fun z => ⟨z.1, z.2, fun m x y hm => by omega⟩, fun z => ⟨z.1, z.2.1⟩⟩⟩
        rintro a i ag121 ⟨hi, B, ea, hB⟩ hag121
        refine ⟨⟨by omega, by omega⟩, ⟨by omega, by omega⟩, fun z => ?_, fun z => ?_⟩
        · have eB : 1 ≤ j → B = same s j := fun hj1 => by
            unfold same
            by_cases w : sm5 (LL s j) (LL s (j - 1)) = true
            · have w2 := of_decide_eq_true w
              rw [w]
              refine hB.mpr ⟨hj1, by have := congrArg List.length w2; rw [List.length_map, List.length_map] at this; exact this, fun m x y _ hx hy => ?_⟩
              have := congrArg (fun t => t[m]?) w2
              simp only [List.getElem?_map, hx, hy, Option.map_some] at this
              exact Option.some.inj this
            · have w3 : sm5 (LL s j) (LL s (j - 1)) = false := by simpa using w
              rw [w3]
              cases e : B with
              | false => rfl
              | true =>
                have hh := hB.mp e
                refine absurd (sm5_eq hh.2.1 fun m x y hx hy => hh.2.2 m x y ?_ hx hy) w
                have := (List.getElem?_eq_some_iff.mp hx).1
                omega
          refine wj1_intro (fun y => y = b01 B) (fun x20 h20 => ?_) (fun J hJ => sp3 ea (fun r => hJ 0 (by rw [r]; rfl)) (fun r => hJ 1 (by rw [r]; rfl)))
          intro s21 e21
          have m1 : s21 164 1 = (j : Int) + 1 := by rw [e21, up_i (by decide)]; exact n1
          rw [m1]
          have fin : ∀ s22 : St, (∀ c : Nat, c ≠ 164 → s22 c = s21 c) → (∀ i : Int, i ≠ 9 → s22 164 i = s21 164 i) → s22 164 9 = (LL s 0).length → ag s22 := fun s22 w1 w2 w3 => by
            have y1 : s22 164 1 = ((j + 1 : Nat) : Int) := by rw [w2 1 (by decide), m1]; rfl
            refine hag _ ⟨j + 1, by omega, y1, B13.go (fun i i0 i1 => by rw [w2 i (by omega), e21, up_i (by omega)]), ?_, fun _ => ⟨?_, ?_, w3⟩, fun hj2 => ?_, fun c c1 c2 c3 => ?_⟩ (by rw [y1, t1]; omega)
            · rw [w2 2 (by decide), e21, up_s, h20]
              by_cases u : 2 ≤ j + 1
              · rw [if_pos u, eB (by omega)]; rfl
              · rw [if_neg u]
                have : B = false := by
                  cases e : B with
                  | false => rfl
                  | true => have := (hB.mp e).1; omega
                rw [this]; rfl
            · exact L13.go (by rw [w2 0 (by decide), e21, up_i (by decide)]) (fun i i0 _ => by rw [w2 i (by omega), e21, up_i (by omega)])
            · rw [w2 3 (by decide), e21, up_i (by decide)]; exact s13_3
            · show nf s (8 - (j + 1)) j = NN s
              by_cases u : j = 1
              · subst u; rfl
              · have h1 := tn (by omega)
                have e8 : 8 - j = (8 - (j + 1)) + 1 := by omega
                rw [e8] at h1
                unfold nf at h1
                rw [hns (by omega), if_neg (by decide), show j - 1 + 1 = j by omega] at h1
                exact h1
            · rw [w1 c c1, e21, up_c c1, c13 c c1 c3, rc c c2]; exact tc c c1 c2 c3
          refine ⟨⟨by omega, by omega⟩, fun u s22 e22 => fin s22 (fun c hc => by rw [e22, up_c hc]) (fun i hi => by rw [e22, up_i hi]) ?_, fun u s23 e23 => fin s23 (fun c hc => by rw [e23, up_c hc]) (fun i hi => by rw [e23, up_i hi]) ?_⟩
          · rw [e22, up_s, e21, up_i (by decide), x13 9 (by decide) (by decide) (by decide) (by decide)]
            exact (tl (by omega)).2.2
          · have j0 : j = 0 := by omega
            subst j0
            rw [e23, up_s, e21, up_i (by decide)]; exact L13.1
        · have no : ¬ (1 ≤ j ∧ (LL s j).length = (LL s (j - 1)).length ∧ ∀ (m : Nat) (x y : Ln), (m : Int) < i + 1 → (LL s j)[m]? = some x → (LL s (j - 1))[m]? = some y → p5 x = p5 y) → ag121 0 (i + 1) := fun w => hag121 _ _ ⟨by omega, false, rfl, ⟨fun u => absurd u (by decide), fun u => absurd u w⟩⟩ (by omega)
          refine sp3 ea (fun r => no fun w => ?_) (fun r => ?_)
          · have : B = true := hB.mpr ⟨w.1, w.2.1, fun m x y hm hx hy => w.2.2 m x y (by omega) hx hy⟩
            rw [r] at this; exact absurd this (by decide)
          · have hh := hB.mp r
            have hl := tl hh.1
            have eN : ((i.toNat : Nat) : Int) = i := by omega
            have e1 := List.getElem?_eq_getElem (by omega : i.toNat < (LL s j).length)
            have e2 := List.getElem?_eq_getElem (by omega : i.toNat < (LL s (j - 1)).length)
            have m1 := hsmj _ (List.getElem_mem (by omega : i.toNat < (LL s j).length))
            have m2 := LL_sm hd (j - 1) _ (List.getElem_mem (by omega : i.toNat < (LL s (j - 1)).length))
            have c1 := L13.2 _ _ e1
            have c2 := hl.1.2 _ _ e2
            have o2 := oi i.toNat (by omega)
            rw [eN] at c1 c2 o2
            generalize (LL s j)[i.toNat] = x at e1 m1 c1
            generalize (LL s (j - 1))[i.toNat] = y at e2 m2 c2
            have d1 := cod_bd m1
            have d2 := cod_bd m2
            rw [o2, c1, c2]
            refine ⟨by omega, by omega, ⟨by omega, by omega⟩, ⟨by omega, by omega⟩, fun w => no fun u => w (cod_p5 (u.2.2 i.toNat x y (by omega) e1 e2)), fun w => ?_⟩
            have w := cod_inj m1 m2 (Decidable.not_not.mp w)
            refine hag121 _ _ ⟨by omega, true, rfl, ⟨fun _ => ⟨hh.1, hh.2.1, fun m x2 y2 hm hx hy => ?_⟩, fun _ => rfl⟩⟩ (by omega)
            by_cases u : m = i.toNat
            · subst u
              rw [e1] at hx
              rw [e2] at hy
              rw [← Option.some.inj hx, ← Option.some.inj hy]; exact w
            · exact hh.2.2 m x2 y2 (by omega) hx hy
      · refine wj0_intro (¬ (1 ≤ j ∧ (LL s j).length = (LL s (j - 1)).length)) (fun z => hJ 0 (by rw [decide_eq_false z]; rfl)) (fun J2 h2 => ⟨⟨by omega, by omega⟩, fun z => h2 (by omega), fun z => ?_⟩)
        have hl := tl (by omega)
        have hl2 := LL_len4 hs (j - 1)
        rw [o0, hl.1.1]
        exact ⟨⟨by omega, by omega⟩, ⟨by omega, by omega⟩, fun w => h2 (by omega), fun w => hJ 1 (by rw [decide_eq_true ⟨by omega, by omega⟩]; rfl)⟩
