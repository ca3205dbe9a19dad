/-! ===== the law's check as a whole ===== -/
theorem IS.x0 {σ : St} {s : Rw} (h : IS σ s) : σ 164 0 = (LF s).length := h.2.2.2.1.1
theorem IS.x3 {σ : St} {s : Rw} (h : IS σ s) : σ 164 3 = (BSn (vF s) 12 : Nat) := h.2.2.2.2.2.1
theorem IS.bx {σ : St} {s : Rw} (h : IS σ s) : BXL σ (xF s) := h.2.2.2.2.1
theorem IS.lx {σ : St} {s : Rw} (h : IS σ s) : LX σ (LF s) := h.2.2.2.1
theorem IS.g9 {σ : St} {s : Rw} (h : IS σ s) : σ 161 9 = s 9 := h.1.r.g (by decide) (by decide)
theorem vF_Vs {s : Rw} : Vs s (vF s) := vv_Vs
theorem shw_Vs {s : Rw} : Vs s (shw s) := fun k q => by
  unfold shw at q
  rw [Bool.and_eq_true] at q
  exact of_decide_eq_true q.1
theorem c40 {s : Rw} (hs : SL s) {v : Int → Bool} (hv : Vs s v) : cI v 40 = cI v 12 := by
  rw [cI_vs hv hs.n.1 (by have := hs.n.2; omega), cI_vs hv hs.n.1 hs.n.2]
theorem vF_shw {s : Rw} {k : Int} (h : vF s k = true) : shw s k = true := by
  have : vF s k = (decide (k < s 9) && (sh' s k && !(cov s (xs s (NN s)) k))) := rfl
  rw [this, Bool.and_eq_true, Bool.and_eq_true] at h
  unfold shw
  rw [h.1, h.2.1]; rfl
theorem rd_cov {s : Rw} (hs : SL s) : cI (fun k => (shw s k && cov s (xF s) k) && vF s k) 12 = rdW s 2 := by
  unfold rdW
  rw [if_neg (by decide), if_neg (by decide), cI_vs (s := s) (v := fun k => (shw s k && cov s (xF s) k) && vF s k) (fun k q => by rw [Bool.and_eq_true] at q; exact vF_Vs k q.2) hs.n.1 hs.n.2]
  refine cI_eq fun k _ _ => ?_
  cases q : vF s k with
  | false => rw [Bool.and_false, Bool.false_and]
  | true => rw [vF_shw q, Bool.and_true]
/-- END: no line behind the last one, the rank of the last kind -/
theorem is_end {s : Rw} {σ : St} {K : Int → St → Prop} {A B : Prop} (hI : IS σ s) (h : ∀ τ : St, IS τ s → K 1 τ) : Rg 1 ∧ ((1 : Int) = 0 → K 0 σ) ∧ (¬ (1 : Int) = 0 → f_L_lineOf (σ 164 0) 0 σ (fun x121 s122 => (Rg x121 ∧ (x121 ≠ (-100001) → K 0 s122) ∧ (¬ x121 ≠ (-100001) → f_L_kindOf 11 0 s122 (fun x123 s124 => (Rg x123 ∧ (x123 ≠ 11 → K 0 s124) ∧ (¬ x123 ≠ 11 → K 1 s124))))))) := by
  refine one_eq (o_lineNo hI hI.x0 fun τ hT => ⟨by decide, fun z => absurd rfl z, fun _ => o_kind hT (by decide) (by decide) (by decide) (by decide) fun ρ hρ => ?_⟩)
  have e : kdW s 11 0 = 11 := by
    unfold kdW
    rw [if_pos rfl]; exact (hI.1.s.hi (by decide) (by decide)).1
  rw [e]
  exact ⟨by decide, fun z => absurd rfl z, fun _ => h ρ hρ⟩
set_option maxHeartbeats 4000000 in
theorem sL_isSo {s : Rw} {σ : St} {K : Int → St → Prop} (hR : REL σ s) (h : ∀ τ : St, REL τ s → K 1 τ) : f_L_isSo σ K := by
  have hs := hR.s
  have hd := hs.d
  have hn := hs.n
  have hS := hd.set
  have hw := hd.win
  have hlen : (LF s).length ≤ 29 := LL_len4 hs (NN s)
  have hl0 : (LL s 0).length ≤ 29 := LL_len4 hs 0
  have hNN := NN_bd s
  unfold f_L_isSo
  refine sL_legend hR.r hs fun σ1 hc1 hx1 => ?_
  have hI1 : IS σ1 s := ⟨⟨hR.r.go (hc1 _ (by decide) (by decide) (by decide)) (hc1 _ (by decide) (by decide) (by decide)) (hc1 _ (by decide) (by decide) (by decide)), hs, hR.2.2.go fun c hc => hc1 c (by omega) (by omega) (by omega)⟩, hx1⟩
  replace h : ∀ τ : St, IS τ s → K 1 τ := fun τ hT => h τ hT.1
  clear hc1 hx1 hR
  refine o_lines hI1 fun σ2 hI2 => ?_
  refine wj1s_intro (fun x τ => x = 1 ∧ IS τ s) (fun x24 s25 hx => ?_) (fun J hJ => ?_)
  rotate_left
  · -- the first answers
    refine wj0s_intro (fun _ => False) (fun _ z => z.elim) (fun J2 _ => ?_)
    have e0 := hI2.x0
    refine same_ne ⟨by omega, by omega⟩ e0.symm (o_first hI2 fun σ3 hI3 => same_ne ⟨by omega, by omega⟩ hI3.2.2.2.2.2.2.symm (o_rounds hI3 (by decide) (by decide) fun σ4 hI4 => ?_))
    have r0 : rdW s 0 = (NN s : Int) + 1 := by unfold rdW; rw [if_pos rfl]
    have r1 : rdW s 1 = b01 (same s (NN s)) := by unfold rdW; rw [if_neg (by decide), if_pos rfl]
    rw [r0]
    refine same_ne ⟨by omega, by omega⟩ hI4.2.1.symm (o_rounds hI4 (by decide) (by decide) fun σ5 hI5 => ?_)
    rw [r1]
    refine same_ne (b01_rg _) hI5.2.2.1.symm (o_rounds hI5 (by decide) (by decide) fun σ6 hI6 => sL_covered hI6.1.r hs hI6.bx (xs_ok hd _) ?_)
    rw [hI6.x3, bA_BS]
    refine sL_bits ?_
    rw [rd_cov hs]
    refine same_ne (rdW_rg hd) rfl (o_value hI6 (by decide) (by decide) fun σ7 hI7 => sL_shown hI7.1.r hs (sL_bits ?_))
    have n10 : nbW s 10 = cI (shw s) 12 := by unfold nbW; rw [if_neg (by decide), if_pos rfl]; exact c40 hs shw_Vs
    have n11 : nbW s 11 = cI (vF s) 12 := by unfold nbW; rw [if_neg (by decide), if_neg (by decide)]; exact c40 hs vF_Vs
    rw [n10]
    refine same_ne (cI_rg _ (by decide) (by decide)) rfl (o_value hI7 (by decide) (by decide) fun σ8 hI8 => ?_)
    rw [hI8.x3, n11]
    exact sL_bits (same_ne (cI_rg _ (by decide) (by decide)) rfl (hJ _ _ ⟨rfl, hI8⟩))
  · -- the map's numbers
    obtain ⟨ex, hI⟩ := hx
    subst ex
    clear hI1 hI2 σ1 σ2
    refine wl2s_invB 11 (fun x k τ => x = 1 ∧ (0 ≤ k ∧ k ≤ 10) ∧ IS τ s) (fun _ k _ => (10 - k).toNat) ?_ ⟨rfl, by decide, hI⟩ (by decide)
    clear hI s25
    rintro x k τ ag ⟨ex, hk, hI⟩ hag
    subst ex
    refine ⟨⟨by omega, by omega⟩, fun q => ?_, fun q => one_eq (o_value hI hk.1 (by omega) fun ρ hρ => ⟨by omega, ?_⟩)⟩
    rotate_left
    · have e1 : nbW s k = s k := by unfold nbW; rw [if_pos (by omega)]
      have e2 := hρ.1.r.g hk.1 (by omega)
      have hrg := nbW_rg hd (w := k) (by omega)
      rw [e1] at hrg ⊢
      exact same_ne hrg e2.symm (hag _ _ _ ⟨rfl, by omega, hρ⟩ (by omega))
    · clear hag ag q hk
      refine wl2s_invB 6 (fun x k τ => x = 1 ∧ (0 ≤ k ∧ k ≤ 5) ∧ IS τ s) (fun _ k _ => (5 - k).toNat) ?_ ⟨rfl, by decide, hI⟩ (by decide)
      clear hI τ k
      rintro x k τ ag ⟨ex, hk, hI⟩ hag
      subst ex
      refine ⟨⟨by omega, by omega⟩, fun q => ?_, fun q => one_eq (o_box hI hk.1 (by omega) fun ρ hρ => ?_)⟩
      rotate_left
      · -- the box's numbers
        have hb := hρ.bx
        rw [hb.1]
        refine wj1_intro (fun y => y = bxW (xF s) (cvF s) k) (fun y hy => same_ne (bxW_rg hd) hy.symm (hag _ _ _ ⟨rfl, by omega, hρ⟩ (by omega))) (fun J hJ => ?_)
        have hxb := xs_ok hd (NN s + 1)
        have hxb : BxOK (xF s) := hxb
        have hx1 := hxb.1
        refine ⟨⟨by omega, by omega⟩, fun z => ⟨by omega, hJ _ ?_⟩, fun z => hJ _ ?_⟩
        · have h2 := hb.2 (by omega)
          unfold bxW
          have : k = 0 ∨ k = 1 ∨ k = 2 ∨ k = 3 ∨ k = 4 := by omega
          rcases this with e | e | e | e | e <;> subst e
          · rw [if_pos rfl]; exact hb.1
          · rw [if_neg (by decide), if_pos rfl]; exact h2.1
          · rw [if_neg (by decide), if_neg (by decide), if_pos rfl]; exact h2.2.1
          · rw [if_neg (by decide), if_neg (by decide), if_neg (by decide), if_pos rfl]; exact h2.2.2.1
          · rw [if_neg (by decide), if_neg (by decide), if_neg (by decide), if_neg (by decide), if_pos rfl]; exact h2.2.2.2
        · have := (xF_no (s := s) (by omega)).2
          rw [this]
          unfold bxW
          have : k = 0 ∨ k = 1 ∨ k = 2 ∨ k = 3 ∨ k = 4 := by omega
          rcases this with e | e | e | e | e <;> subst e <;> rfl
      · clear hag ag q hk k
        refine wj1s_intro (fun x τ => x = 1 ∧ IS τ s) (fun x48 s49 hx => ?_) (fun J hJ => ?_)
        rotate_left
        · -- what the box covers, what is explained
          refine wj0s_intro (fun _ => False) (fun _ z => z.elim) (fun J2 _ => one_eq (o_box hI (by decide) (by decide) fun ρ hρ => ?_))
          have hb := hρ.bx
          have hxb : BxOK (xF s) := xs_ok hd (NN s + 1)
          have hx1 := hxb.1
          have hcv := ctb_bd hd (xF s)
          rw [hb.1]
          have e5 : bxW (xF s) (cvF s) 5 = cvF s := by
            unfold bxW
            rw [if_neg (by decide), if_neg (by decide), if_neg (by decide), if_neg (by decide), if_neg (by decide)]
          rw [e5]
          have hcvR : Rg (cvF s) := by
            unfold cvF
            split
            · decide
            · constructor <;> omega
          refine wj1_intro (fun y => y = cvF s) (fun y hy => same_ne hcvR hy.symm (o_explained hρ fun π hπ => sL_shown hπ.1.r hs ?_)) (fun J3 h3 => ⟨⟨by omega, by omega⟩, fun z => sL_covered hρ.1.r hs hb hxb (sL_bits (h3 _ ?_)), fun z => h3 _ ?_⟩)
          · have b1 := cI_bd (shw s) (i := 12) (by decide)
            have b2 := cI_bd (vF s) (i := 12) (by decide)
            have eb : ((BSn (shw s) 12 : Nat) : Int) = 0 ↔ cI (shw s) 12 = 0 := by
              constructor
              · intro z
                have z : BSn (shw s) 12 = 0 := by omega
                rw [← pc_BS, z]; rfl
              · intro z
                rw [← pc_BS] at z
                have z2 : pcN (BSn (shw s) 12) = 0 := by omega
                refine Classical.byContradiction fun w => ?_
                have := pc_and (z := BSn (shw s) 12) (by omega) (BSn_12 _ (by decide))
                omega
            have hlt := BSn_12 (shw s) (m := 12) (by decide)
            unfold ev
            rw [c40 hs shw_Vs, c40 hs vF_Vs]
            refine ⟨⟨by omega, by omega⟩, fun z => ?_, fun z => ?_⟩
            · have z2 : ¬ cI (shw s) 12 = 0 := fun w => z (eb.mpr w)
              rw [hπ.x3]
              refine sL_bits (sL_shown hπ.1.r hs (sL_bits ?_))
              rw [if_neg (by omega)]
              have := share_ok (a := cI (vF s) 12) (b := cI (shw s) 12) (by omega) (by omega)
              exact ⟨this.1, this.2, hJ _ _ ⟨rfl, hπ⟩⟩
            · have z2 : cI (shw s) 12 = 0 := eb.mp (Decidable.not_not.mp z)
              rw [if_pos (by omega)]
              exact ⟨share_1, hJ _ _ ⟨rfl, hπ⟩⟩
          · rw [ctb_12 hs]
            unfold cvF
            rcases xF_box (s := s) with w | w
            · omega
            · rw [if_neg w.2]
          · have w := xF_no (s := s) (by omega)
            unfold cvF
            rw [if_pos w.1]
        · -- line by line
          obtain ⟨ex, hI2⟩ := hx
          subst ex
          clear hI τ
          refine wl2s_invB 55 (fun x k τ => x = 1 ∧ (0 ≤ k ∧ k ≤ (LF s).length) ∧ IS τ s) (fun _ k _ => (((LF s).length : Int) - k).toNat) ?_ ⟨rfl, by omega, hI2⟩ (by omega)
          clear hI2 s49
          rintro x i τ ag ⟨ex, hi, hI⟩ hag
          subst ex
          refine wj0_intro True (fun _ => ?_) (fun J hJ => ?_)
          rotate_left
          · rw [hI.x0]
            refine ⟨⟨by omega, by omega⟩, ⟨by omega, by omega⟩, fun _ => hJ trivial, fun z => one_eq ⟨by omega, fun x54 e54 => ?_⟩⟩
            rw [LX_at hI.lx hi.1 (by omega)] at e54
            subst e54
            have hmem := LnA_mem hi.1 (by omega : i < (LF s).length)
            have hsm := LF_sm hd _ hmem
            rw [hI.g9]
            refine count_loop (fun n => stX s (LnA (LF s) i) n && vF s n) (s 9) hn.1 (fun a n ag2 ha n0 n1 hag2 => ?_) (fun a ag2 ha => ?_)
            · refine ⟨⟨by omega, by omega⟩, ⟨by omega, by omega⟩, fun w => by omega, fun w => sL_stands hI hi.1 (by omega) n0 n1 (b01_split (fun r => ?_) (fun r => ?_))⟩
              · rw [r] at hag2; intro y hy; rw [hy]; exact hag2
              · rw [r] at hag2; intro y hy; rw [hy]; exact hag2
            · rw [ln_many hd hmem] at ha
              subst ha
              have cb := cod_bd hsm
              have ct := cod_ty hsm
              have ck := cod_k hsm
              have cg := cod_g hsm
              have cf := cod_f hsm
              have cl := cod_l hsm
              have hpl : plc (s 1) (LF s) i = (pl (s 1) (LF s) i.toNat).1 + 100 * (pl (s 1) (LF s) i.toNat).2 := by unfold plc; rw [if_pos (by omega)]
              have hbn : (0 ≤ (pl (s 1) (LF s) i.toNat).1 ∧ (pl (s 1) (LF s) i.toNat).1 ≤ 3) ∧ (0 ≤ (pl (s 1) (LF s) i.toNat).2 ∧ (pl (s 1) (LF s) i.toNat).2 ≤ 29) := by
                have hH := hL_pos hS.2.1.1 hS.2.1.2 (n := (LF s).length) (by omega) (by omega)
                have hb := cs_bd hS.2.1.1 hH.1 (LF s) i.toNat
                unfold pl nx
                split
                · exact ⟨⟨by show 0 ≤ _ + 1; omega, by show _ + 1 ≤ _; omega⟩, ⟨Int.le_refl 0, by show (0 : Int) ≤ 29; decide⟩⟩
                · exact ⟨by omega, by omega⟩
              have hw5 : ∀ w : Int, Rg (lnW (s 1) (LF s) i w) := fun w => lnW_rg hd hi.1 (by omega)
              have w0 : lnW (s 1) (LF s) i 0 = (LnA (LF s) i).1 := by unfold lnW; rw [if_pos rfl]
              have w1 : lnW (s 1) (LF s) i 1 = (LnA (LF s) i).2.1 := by unfold lnW; rw [if_neg (by decide), if_pos rfl]
              have w2 : lnW (s 1) (LF s) i 2 = (LnA (LF s) i).2.2.1 := by unfold lnW; rw [if_neg (by decide), if_neg (by decide), if_pos rfl]
              have w3 : lnW (s 1) (LF s) i 3 = (LnA (LF s) i).2.2.2.1 := by unfold lnW; rw [if_neg (by decide), if_neg (by decide), if_neg (by decide), if_pos rfl]
              have w4 : lnW (s 1) (LF s) i 4 = (LnA (LF s) i).2.2.2.2.1 := by unfold lnW; rw [if_neg (by decide), if_neg (by decide), if_neg (by decide), if_neg (by decide), if_pos rfl]
              have w5 : lnW (s 1) (LF s) i 5 = (LnA (LF s) i).2.2.2.2.2 := by unfold lnW; rw [if_neg (by decide), if_neg (by decide), if_neg (by decide), if_neg (by decide), if_neg (by decide), if_pos rfl]
              have w6 : lnW (s 1) (LF s) i 6 = (pl (s 1) (LF s) i.toNat).1 := by unfold lnW; rw [if_neg (by decide), if_neg (by decide), if_neg (by decide), if_neg (by decide), if_neg (by decide), if_neg (by decide), if_pos rfl]
              have w7 : lnW (s 1) (LF s) i 7 = (pl (s 1) (LF s) i.toNat).2 := by unfold lnW; rw [if_neg (by decide), if_neg (by decide), if_neg (by decide), if_neg (by decide), if_neg (by decide), if_neg (by decide), if_neg (by decide)]
              refine ⟨⟨by omega, by omega⟩, ⟨by omega, by omega⟩, fun _ => sL_place hI.1.r hs hI.lx (by omega) (LF_sm hd) hi.1 (by omega) ?_, fun w => by omega⟩
              rw [hpl]
              refine o_line hI hi.1 (by omega) (by decide) (by decide) fun τ0 h0 => ⟨by omega, same_ne (hw5 _) (by rw [w0, ct]) ?_⟩
              refine o_line h0 hi.1 (by omega) (by decide) (by decide) fun τ1 h1 => ⟨by omega, by omega, same_ne (hw5 _) (by rw [w1, ck]) ?_⟩
              refine o_line h1 hi.1 (by omega) (by decide) (by decide) fun τ2 h2 => ⟨by omega, by omega, same_ne (hw5 _) (by rw [w2, cg]) ?_⟩
              refine o_line h2 hi.1 (by omega) (by decide) (by decide) fun τ3 h3 => ⟨by omega, by omega, same_ne (hw5 _) (by rw [w3, cf]) ?_⟩
              refine o_line h3 hi.1 (by omega) (by decide) (by decide) fun τ4 h4 => ⟨by omega, same_ne (hw5 _) (by rw [w4, cl]) ?_⟩
              refine o_line h4 hi.1 (by omega) (by decide) (by decide) fun τ5 h5 => same_ne (hw5 _) (by rw [w5]) ?_
              refine o_line h5 hi.1 (by omega) (by decide) (by decide) fun τ6 h6 => ⟨by omega, same_ne (hw5 _) (by rw [w6]; omega) ?_⟩
              refine o_line h6 hi.1 (by omega) (by decide) (by decide) fun τ7 h7 => ⟨by omega, same_ne (hw5 _) (by rw [w7]; omega) ?_⟩
              exact hag _ _ _ ⟨rfl, by omega, h7⟩ (by omega)
          · -- sign by sign
            clear hag ag hi i
            refine wl2s_invB 13 (fun x k τ => x = 1 ∧ (0 ≤ k ∧ k ≤ s 9) ∧ IS τ s) (fun _ k _ => (s 9 - k).toNat) ?_ ⟨rfl, by omega, hI⟩ (by omega)
            clear hI τ
            rintro x n τ ag ⟨ex, hn1, hI⟩ hag
            subst ex
            refine wj0_intro True (fun _ => ?_) (fun J hJ => ?_)
            rotate_left
            · rw [hI.g9]
              refine ⟨⟨by omega, by omega⟩, ⟨by omega, by omega⟩, fun _ => hJ trivial, fun z => one_eq ?_⟩
              have nl9 : n < s 9 := by omega
              rw [hI.x0]
              refine wl2_inv (fun a i => (0 ≤ i ∧ i ≤ (LF s).length) ∧ ((a = -1 ∧ ∀ j : Int, 0 ≤ j → j < i → (stX s (LnA (LF s) j) n && vF s n) = false) ∨ ((0 ≤ a ∧ a < (LF s).length) ∧ (stX s (LnA (LF s) a) n && vF s n) = true))) (fun _ i => (((LF s).length : Int) - i).toNat) ?_ ⟨by omega, Or.inl ⟨rfl, fun j j0 j1 => by omega⟩⟩
              rintro a i ag2 ⟨hi, ha⟩ hag2
              refine ⟨⟨by omega, by omega⟩, ⟨by omega, by omega⟩, fun w => ?_, fun w => sL_stands hI hi.1 (by omega) hn1.1 nl9 (b01_split (fun r => hag2 _ _ ⟨by omega, ?_⟩ (by omega)) (fun r => hag2 _ _ ⟨by omega, Or.inr ⟨by omega, r⟩⟩ (by omega)))⟩
              rotate_left
              · rcases ha with ⟨e, ha⟩ | ha
                · refine Or.inl ⟨e, fun j j0 j1 => ?_⟩
                  by_cases u : j = i
                  · rw [u]; exact r
                  · exact ha j j0 (by omega)
                · exact Or.inr ha
              · have ei : i = (LF s).length := by omega
                have hline : lnF s (vF s) (LF s) n = a := lnF_of hd (by rw [ei] at ha; exact ha)
                clear ha hag2 ag2 hi ei w
                refine wl2s_invB 6 (fun x k τ => x = 1 ∧ (0 ≤ k ∧ k ≤ 5) ∧ IS τ s) (fun _ k _ => (5 - k).toNat) ?_ ⟨rfl, by decide, hI⟩ (by decide)
                clear hI τ
                rintro x k τ ag3 ⟨ex, hk, hI⟩ hag3
                subst ex
                have hrg : ∀ w : Int, Rg (sgW s n w) := fun w => sgW_rg hd hn1.1 nl9
                refine ⟨⟨by omega, by omega⟩, fun q => one_eq ?_, fun q => one_eq (o_sign hI hn1.1 nl9 hk.1 (by omega) fun ρ hρ => ⟨by omega, same_ne (hrg _) ?_ (hag3 _ _ _ ⟨rfl, by omega, hρ⟩ (by omega))⟩)⟩
                rotate_left
                · have he := hρ.1.r.e hn1.1 nl9
                  have : k = 0 ∨ k = 1 ∨ k = 2 ∨ k = 3 ∨ k = 4 := by omega
                  unfold sgW
                  rcases this with e | e | e | e | e <;> subst e
                  · rw [if_pos rfl, Int.add_zero]; exact he.1.symm
                  · rw [if_neg (by decide), if_pos rfl]; exact he.2.1.symm
                  · rw [if_neg (by decide), if_neg (by decide), if_pos rfl]; exact he.2.2.1.symm
                  · rw [if_neg (by decide), if_neg (by decide), if_neg (by decide), if_pos rfl]; exact he.2.2.2.1.symm
                  · rw [if_neg (by decide), if_neg (by decide), if_neg (by decide), if_neg (by decide), if_pos rfl]; exact he.2.2.2.2.symm
                · have v5 : sgW s n 5 = cls s n := by unfold sgW; rw [if_neg (by decide), if_neg (by decide), if_neg (by decide), if_neg (by decide), if_neg (by decide), if_pos rfl]
                  have v6 : sgW s n 6 = b01 (shw s n) := by unfold sgW; rw [if_neg (by decide), if_neg (by decide), if_neg (by decide), if_neg (by decide), if_neg (by decide), if_neg (by decide), if_pos rfl]
                  have v7 : sgW s n 7 = b01 (vF s n) := by unfold sgW; rw [if_neg (by decide), if_neg (by decide), if_neg (by decide), if_neg (by decide), if_neg (by decide), if_neg (by decide), if_neg (by decide), if_pos rfl]
                  have v8 : sgW s n 8 = a := by unfold sgW; rw [if_neg (by decide), if_neg (by decide), if_neg (by decide), if_neg (by decide), if_neg (by decide), if_neg (by decide), if_neg (by decide), if_neg (by decide)]; exact hline
                  refine o_sign hI hn1.1 nl9 (by decide) (by decide) fun τ0 h0 => sL_classOf h0.1.r hs hn1.1 nl9 (same_ne (hrg _) v5 ?_)
                  refine o_sign h0 hn1.1 nl9 (by decide) (by decide) fun τ1 h1 => sL_shown h1.1.r hs (same_ne (hrg _) (by rw [v6]; exact (bit_BS (by decide) hn1.1 (by omega)).symm) ?_)
                  refine o_sign h1 hn1.1 nl9 (by decide) (by decide) fun τ2 h2 => same_ne (hrg _) (by rw [v7, h2.x3]; exact (bit_BS (by decide) hn1.1 (by omega)).symm) ?_
                  refine o_sign h2 hn1.1 nl9 (by decide) (by decide) fun τ3 h3 => same_ne (hrg _) v8 ?_
                  exact hag _ _ _ ⟨rfl, by omega, h3⟩ (by omega)
            · -- kind by kind
              clear hag ag hn1 n
              refine wl2s_invB 5 (fun x k τ => x = 1 ∧ (0 ≤ k ∧ k ≤ 4) ∧ IS τ s) (fun _ k _ => (4 - k).toNat) ?_ ⟨rfl, by decide, hI⟩ (by decide)
              clear hI τ
              rintro x k τ ag ⟨ex, hk, hI⟩ hag
              subst ex
              refine wj0_intro True (fun _ => is_end (A := True) (B := True) hI h) (fun J hJ => ⟨⟨by omega, by omega⟩, fun _ => hJ trivial, fun z => one_eq ?_⟩)
              have k4 : k < 4 := by omega
              rw [hI.x0]
              refine count_loop (fun i => decide ((LnA (LF s) i).1 = 0 ∧ (LnA (LF s) i).2.1 = k)) (LF s).length (by omega) (fun a i ag2 ha i0 i1 hag2 => ?_) (fun a ag2 ha => ?_)
              · have hsm := LF_sm hd _ (LnA_mem i0 i1)
                have cb := cod_bd hsm
                have ct := cod_ty hsm
                have ck := cod_k hsm
                have hm := hsm.1
                have hm2 := hsm.2.1
                rw [LX_at hI.lx i0 i1, ct]
                refine ⟨⟨by omega, by omega⟩, ⟨by omega, by omega⟩, fun w => by omega, fun w => ⟨by omega, by omega, ⟨by omega, by omega⟩, fun u => ?_, fun u => ⟨by omega, by omega, by omega, ⟨by omega, by omega⟩, ⟨by omega, by omega⟩, fun u2 => ?_, fun u2 => ?_⟩⟩⟩
                · rw [decide_eq_false (fun y => u y.1)] at hag2; intro y hy; rw [hy]; exact hag2
                · rw [decide_eq_false (fun y => by omega)] at hag2; intro y hy; rw [hy]; exact hag2
                · rw [decide_eq_true ⟨Decidable.not_not.mp u, by omega⟩] at hag2; intro y hy; rw [hy]; exact hag2
              · have ea : a = coK (LF s) k := ha
                clear ha
                have hkR : ∀ w : Int, 0 ≤ w → Rg (kdW s k w) := fun w w0 => kdW_rg hd hk.1 (by omega) w0
                refine ⟨⟨by omega, by omega⟩, ⟨by omega, by omega⟩, fun _ => ?_, fun w => by omega⟩
                refine wl2s_invB 9 (fun x w τ => x = 1 ∧ (0 ≤ w ∧ w ≤ 8) ∧ IS τ s) (fun _ w _ => (8 - w).toNat) ?_ ⟨rfl, by decide, hI⟩ (by decide)
                clear hI τ
                rintro x w τ ag3 ⟨ex, hw8, hI⟩ hag3
                subst ex
                refine ⟨⟨by omega, by omega⟩, fun q => one_eq ?_, fun q => one_eq (o_kind hI hk.1 (by omega) hw8.1 (by omega) fun ρ hρ => ?_)⟩
                · have k8 : kdW s k 8 = a := by unfold kdW; rw [if_neg (by decide), if_neg (by decide), if_neg (by decide), if_pos rfl]; exact ea.symm
                  have k9 : kdW s k 9 = cn s (vF s) k 0 5 := by
                    unfold kdW
                    rw [if_neg (by decide), if_neg (by decide), if_neg (by decide), if_neg (by decide), if_pos rfl]
                    unfold tot cn
                    refine cI_eq fun j j0 j1 => ?_
                    have := cls_bd hd j0 j1
                    rw [decide_eq_true (by omega : 0 ≤ cls s j ∧ cls s j ≤ 5), Bool.and_true]
                  refine o_kind hI hk.1 (by omega) (by decide) (by decide) fun τ0 h0 => same_ne (hkR _ (by decide)) k8 ?_
                  refine o_kind h0 hk.1 (by omega) (by decide) (by decide) fun τ1 h1 => ?_
                  rw [h1.x3]
                  exact sL_signs h1.1.r hs vF_Vs ⟨by omega, by omega⟩ (by decide) (by decide) (same_ne (hkR _ (by decide)) k9 (hag _ _ _ ⟨rfl, by omega, h1⟩ (by omega)))
                · have hD := hρ.1.r.d hk.1 k4
                  have hkk := hd.kind k hk.1 (by omega)
                  refine wj1_intro (fun y => y = kdW s k w) (fun y hy => same_ne (hkR _ hw8.1) hy.symm (hag3 _ _ _ ⟨rfl, by omega, hρ⟩ (by omega))) (fun J2 h2 => ?_)
                  refine wj0_intro (w ≤ 2 ∨ w - 3 < nl s k) (fun u => ⟨by omega, h2 _ ?_⟩) (fun J3 h3 => ⟨⟨by omega, by omega⟩, fun u => h3 (Or.inl u), fun u => ?_⟩)
                  · unfold kdW
                    by_cases u2 : w ≤ 2
                    · have : w = 0 ∨ w = 1 ∨ w = 2 := by omega
                      rcases this with e | e | e <;> subst e
                      · rw [if_pos rfl, Int.add_zero]; exact hD.1
                      · rw [if_neg (by decide), if_pos rfl]; exact hD.2.1
                      · rw [if_neg (by decide), if_neg (by decide), if_pos rfl]; exact hD.2.2.1
                    · have u3 : w - 3 < nl s k := by omega
                      have := hD.2.2.2 (w - 3) (by omega) u3
                      rw [if_neg (by omega), if_neg (by omega), if_neg (by omega), if_neg (by omega), if_neg (by omega), if_pos u3, ← this]
                      congr 1
                      omega
                  · rw [hD.2.2.1]
                    refine ⟨by omega, ⟨by omega, by omega⟩, ⟨by omega, by omega⟩, fun u2 => h3 (Or.inr u2), fun u2 => h2 _ ?_⟩
                    unfold kdW
                    rw [if_neg (by omega), if_neg (by omega), if_neg (by omega), if_neg (by omega), if_neg (by omega), if_neg (by omega)]
