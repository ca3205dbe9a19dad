/-! ===== changes ===== -/
/-- the class has changed its state to a row, and saved the one before -/
def CM (σ τ : St) (t : Rw) (p : Int) (P : Int → Rw) : Prop := (∀ c : Nat, 14 < c → (c < 109 ∨ 160 < c) → c ≠ 176 → τ c = σ c) ∧ (∀ f : Int, f ≠ 0 → τ 14 f = σ 14 f) ∧ τ 14 0 = 0 ∧ RI τ (pushN p) (pushP p P (σ 162)) ∧ Ms τ 1 t
theorem CM.ms {σ τ ρ : St} {s t : Rw} {p : Int} {P : Int → Rw} (h : CM σ τ s p P) (e : ∀ c : Nat, (c < 1 ∨ 13 < c) → c ≠ 176 → ρ c = τ c) (m : Ms ρ 1 t) : CM σ ρ t p P := by
  obtain ⟨h1, h2, h3, h4, _⟩ := h
  exact ⟨fun c g1 g2 g3 => by rw [e c (by omega) g3]; exact h1 c g1 g2 g3, fun f hf => by rw [e 14 (by decide) (by decide)]; exact h2 f hf, by rw [e 14 (by decide) (by decide)]; exact h3, h4.go (by rw [e 0 (by decide) (by decide)]) (by rw [e 0 (by decide) (by decide)]) (fun c g1 g2 => e c (by omega) (by omega)), m⟩
theorem CM.u {σ τ : St} {t : Rw} {p : Int} {P : Int → Rw} (h : CM σ τ t p P) (x : Int) : CM σ (up2 τ 176 0 x) t p P := h.ms (fun c _ g => up_c g) (h.2.2.2.2.go fun c g1 g2 => up_c (by omega))
theorem CM.row {σ τ : St} {t : Rw} {p : Int} {P : Int → Rw} (h : CM σ τ t p P) : τ 162 = σ 162 := h.1 162 (by decide) (by decide) (by decide)
theorem q_save {σ : St} {K : St → Prop} (hR : REL σ) (h : ∀ (τ : St) (p : Int) (P : Int → Rw), RI σ p P → MI σ p P → CM σ τ (σ 162) p P → K τ) : f_X6_saveState σ K := by
  obtain ⟨p, P, hri, hmi⟩ := hR.p
  refine s6_saveState hR.d hR.m hri fun τ c1 f1 z1 r1 => h τ p P hri hmi ⟨fun c g1 g2 _ => c1 c (by omega) (by omega) g2, f1, z1, r1, hR.m.go fun c g1 g2 => c1 c (by omega) (by omega) (by omega)⟩
theorem mut_rel {σ s3 ρ : St} {t : Rw} {p : Int} {P : Int → Rw} (hR : REL σ) (hdt : Dm t) (hcm : CM σ s3 t p P) (hc : ∀ c : Nat, c < 161 ∨ c = 166 → ρ c = s3 c) (h6 : ρ 161 6 = σ 161 6) (hrow : ρ 162 = t) (hM : MI ρ (pushN p) (pushP p P (σ 162))) : REL ρ := by
  obtain ⟨h1, h2, h3, h4, h5⟩ := hcm
  obtain ⟨_, _, _, g4, _, g6, g7⟩ := hR
  have kc : ∀ c : Nat, 14 < c → (c < 109 ∨ c = 166) → ρ c = σ c := fun c z1 z2 => by rw [hc c (by omega), h1 c z1 (by omega) (by omega)]
  refine ⟨by rw [hrow]; exact hdt, by rw [hrow]; exact h5.go fun c z1 z2 => hc c (by omega), ⟨_, _, h4.go (by rw [hc 0 (by decide)]) (by rw [hc 0 (by decide)]) (fun c z1 z2 => hc c (by omega)), hM⟩, ?_, Or.inl (by rw [hc 14 (by decide)]; exact h3), by rw [kc 24 (by decide) (by decide)]; exact g6, by rw [kc 70 (by decide) (by decide)]; exact g7⟩
  unfold TX
  rw [kc 93 (by decide) (by decide), h6, kc 94 (by decide) (by decide), kc 166 (by decide) (by decide)]
  exact g4
theorem end_ok {σ s3 ρ : St} {t : Rw} {p a : Int} {P : Int → Rw} {J : St → Prop} (hR : REL σ) (hdt : Dm t) (hri : RI σ p P) (hmi : MI σ p P) (hcm : CM σ s3 t p P) (hh : ∀ i : Int, 0 ≤ i → i < 311 → ρ 164 i = σ 162 i) (hc : ∀ c : Nat, c ≠ 162 → c ≠ 164 → ρ c = s3 c) (hrow : ρ 162 = t) (ha : Rg a) (h176 : s3 176 0 = a) (hJ : ∀ τ : St, REL τ → J τ) : f_X7_ends a ρ (fun x s => TL 0 x s J) := by
  have k161 : ρ 161 = σ 161 := by rw [hc 161 (by decide) (by decide)]; exact hcm.1 161 (by decide) (by decide) (by decide)
  have k163 : ρ 163 = σ 163 := by rw [hc 163 (by decide) (by decide)]; exact hcm.1 163 (by decide) (by decide) (by decide)
  refine s7_ends hri.2.2.1 (hmi.go (by rw [k161]) k163) hh fun π pc pf pm => ?_
  have hRp : REL π := mut_rel hR hdt hcm (fun c hc2 => by rw [pc c (by omega) (by omega), hc c (by omega) (by omega)]) (by rw [pf 6 (by decide) (by decide), k161]) (by rw [pc 162 (by decide) (by decide)]; exact hrow) pm
  exact tells_ok hRp hJ ha (by rw [pc 176 (by decide) (by decide), hc 176 (by decide) (by decide)]; exact h176)
theorem putS_lo {s : Rw} {a b c d e : Int} (h0 : 0 ≤ s 9) {i : Int} (h1 : i < 111) (h9 : i ≠ 9) : putS s a b c d e i = s i := by
  unfold putS
  rw [if_neg h9, if_neg (by omega), if_neg (by omega), if_neg (by omega), if_neg (by omega), if_neg (by omega)]
theorem o_addSign {a b c d e : Int} {σ : St} {Kx : Int → St → Prop} {J : St → Prop} (ra : Rg a) (rb : Rg b) (rc : Rg c) (rd : Rg d) (re : Rg e) (hR : REL σ) (hJ : ∀ τ : St, REL τ → J τ) (hK : ∀ (x : Int) (s : St), f_X7_addSign a b c d e s (fun y t => TL x y t J) → Kx x s) : f_L_addSign a b c d e σ Kx := by
  have hd := hR.d
  have hn := hd.n
  have bad : 0 ≤ a ∧ a < 12 → ¬ ((0 ≤ b ∧ b ≤ 199) ∧ (0 ≤ c ∧ c ≤ 199) ∧ (0 ≤ d ∧ d ≤ 9999) ∧ (0 ≤ e ∧ e ≤ 5)) → Kx 2 σ := fun qa q => by
    refine hK _ _ ?_
    unfold f_X7_addSign
    refine kind_ok qa (ok_ne ?_)
    by_cases qb : 0 ≤ b ∧ b ≤ 199
    · refine in_ok rb ⟨by decide, by decide⟩ ⟨by decide, by decide⟩ qb (ok_eq ?_)
      by_cases qc : 0 ≤ c ∧ c ≤ 199
      · refine in_ok rc ⟨by decide, by decide⟩ ⟨by decide, by decide⟩ qc (ok_eq ?_)
        by_cases qd : 0 ≤ d ∧ d ≤ 9999
        · refine in_ok rd ⟨by decide, by decide⟩ ⟨by decide, by decide⟩ qd (ok_eq ?_)
          exact in_no re ⟨by decide, by decide⟩ ⟨by decide, by decide⟩ (fun z => q ⟨qb, qc, qd, z⟩) (no_ne (fails_ok hR hJ (by decide)))
        · exact in_no rd ⟨by decide, by decide⟩ ⟨by decide, by decide⟩ qd (no_eq (fails_ok hR hJ (by decide)))
      · exact in_no rc ⟨by decide, by decide⟩ ⟨by decide, by decide⟩ qc (no_eq (fails_ok hR hJ (by decide)))
    · exact in_no rb ⟨by decide, by decide⟩ ⟨by decide, by decide⟩ qb (no_eq (fails_ok hR hJ (by decide)))
  have x2 : Kx 2 σ → (2 = 1 → Kx 1 σ) ∧ (2 = 2 → Kx 2 σ) ∧ (2 = 3 → Kx 3 σ) ∧ (2 = 1 ∨ 2 = 2 ∨ 2 = 3) := fun z => ⟨fun t => absurd t (by decide), fun _ => z, fun t => absurd t (by decide), Or.inr (Or.inl rfl)⟩
  unfold f_L_addSign f_X6_addSign
  refine s6_demandKind ra (fun qa => s6_demandBelow rb ⟨by decide, by decide⟩ (fun qb => s6_demandBelow rc ⟨by decide, by decide⟩ (fun qc => s6_demandBelow rd ⟨by decide, by decide⟩ (fun qd => s6_demandBelow re ⟨by decide, by decide⟩ (fun qe => ?_) (fun q => x2 (bad qa (by omega)))) (fun q => x2 (bad qa (by omega)))) (fun q => x2 (bad qa (by omega)))) (fun q => x2 (bad qa (by omega)))) (fun q => ⟨fun _ => hK _ _ ?_, fun t => absurd t (by decide), fun t => absurd t (by decide), Or.inl rfl⟩)
  · have e15 : σ 1 5 = σ 162 9 := hR.m.n
    rw [e15]
    refine ⟨⟨by omega, by omega⟩, fun q9 => q_save hR fun τ p P hri hmi hcm => ?_, fun q9 => ⟨fun t => absurd t (by decide), fun t => absurd t (by decide), fun _ => hK _ _ ?_, Or.inr (Or.inr rfl)⟩⟩
    · have hdt := hd.put (a := a) (b := b) (c := c) (d := d) (e := e) q9 (by omega) (by omega) (by omega) (by omega) (by omega)
      refine s3_putSign hcm.2.2.2.2.sg hn.1 q9 fun σ2 ps g2 => ?_
      have M2 : Ms σ2 1 (putS (σ 162) a b c d e) := g2.ms hd hcm.2.2.2.2 (fun c z1 z2 => ps.1 c (by omega)) (fun i i0 i1 i9 => putS_lo hn.1 i1 i9)
      have e5 : σ2 1 5 = σ 162 9 + 1 := M2.n
      rw [e5]
      refine ⟨⟨by omega, by omega⟩, fun s3 e3 => hK _ _ ?_⟩
      have C3 : CM σ s3 (putS (σ 162) a b c d e) p P := by rw [e3]; exact (hcm.ms (fun c z1 _ => ps.1 c (by omega)) M2).u _
      have h176 : s3 176 0 = σ 162 9 + 1 - 1 := by rw [e3, up_s]
      clear e3
      unfold f_X7_addSign
      refine kind_ok qa (ok_ne (in_ok rb ⟨by decide, by decide⟩ ⟨by decide, by decide⟩ (by omega) (ok_eq (in_ok rc ⟨by decide, by decide⟩ ⟨by decide, by decide⟩ (by omega) (ok_eq (in_ok rd ⟨by decide, by decide⟩ ⟨by decide, by decide⟩ (by omega) (ok_eq (in_ok re ⟨by decide, by decide⟩ ⟨by decide, by decide⟩ (by omega) (ok_ne ?_)))))))))
      rw [C3.row]
      refine ⟨⟨by omega, by omega⟩, fun _ => s7_hold fun r0 h0 g0 => ?_, fun z => by omega⟩
      have t0 : r0 162 = σ 162 := by rw [h0 162 (by decide)]; exact C3.row
      intro x13 e13
      rw [t0] at e13
      subst e13
      refine ⟨by omega, ?_⟩
      intro s14 e14
      refine ⟨by omega, ?_⟩
      intro s15 e15
      refine ⟨by omega, ?_⟩
      intro s16 e16
      refine ⟨by omega, ?_⟩
      intro s17 e17
      refine ⟨by omega, ?_⟩
      intro s18 e18
      intro s19 e19
      have k9 : s18 162 9 = σ 162 9 := by rw [e18, up_i (by omega), e17, up_i (by omega), e16, up_i (by omega), e15, up_i (by omega), e14, up_i (by omega), t0]
      rw [k9] at e19
      have hrow : s19 162 = putS (σ 162) a b c d e := by
        rw [e19, up_row, e18, up_row, e17, up_row, e16, up_row, e15, up_row, e14, up_row, t0]
        funext j
        simp only [setF_if]
        unfold putS
        by_cases j9 : j = 9
        · rw [if_pos j9, if_pos j9]
        · rw [if_neg j9, if_neg j9]
          by_cases j0 : j = 111 + 5 * σ 162 9
          · have n1 : ¬ j = 111 + 5 * σ 162 9 + 1 := by omega
            have n2 : ¬ j = 111 + 5 * σ 162 9 + 2 := by omega
            have n3 : ¬ j = 111 + 5 * σ 162 9 + 3 := by omega
            have n4 : ¬ j = 111 + 5 * σ 162 9 + 4 := by omega
            simp only [if_pos j0, if_neg n1, if_neg n2, if_neg n3, if_neg n4]
          · by_cases j1 : j = 111 + 5 * σ 162 9 + 1
            · have n2 : ¬ j = 111 + 5 * σ 162 9 + 2 := by omega
              have n3 : ¬ j = 111 + 5 * σ 162 9 + 3 := by omega
              have n4 : ¬ j = 111 + 5 * σ 162 9 + 4 := by omega
              simp only [if_neg j0, if_pos j1, if_neg n2, if_neg n3, if_neg n4]
            · by_cases j2 : j = 111 + 5 * σ 162 9 + 2
              · have n3 : ¬ j = 111 + 5 * σ 162 9 + 3 := by omega
                have n4 : ¬ j = 111 + 5 * σ 162 9 + 4 := by omega
                simp only [if_neg j0, if_neg j1, if_pos j2, if_neg n3, if_neg n4]
              · by_cases j3 : j = 111 + 5 * σ 162 9 + 3
                · have n4 : ¬ j = 111 + 5 * σ 162 9 + 4 := by omega
                  simp only [if_neg j0, if_neg j1, if_neg j2, if_pos j3, if_neg n4]
                · simp only [if_neg j0, if_neg j1, if_neg j2, if_neg j3]
      have ka : s19 162 9 - 1 = σ 162 9 + 1 - 1 := by rw [e19, up_s]
      rw [ka]
      refine end_ok hR hdt hri hmi C3 (fun i i0 i1 => ?_) (fun c z1 z2 => ?_) hrow ⟨by omega, by omega⟩ h176 hJ
      · rw [e19, up_c (by decide), e18, up_c (by decide), e17, up_c (by decide), e16, up_c (by decide), e15, up_c (by decide), e14, up_c (by decide), g0 i i0 i1, C3.row]
      · rw [e19, up_c z1, e18, up_c z1, e17, up_c z1, e16, up_c z1, e15, up_c z1, e14, up_c z1, h0 c z2]
    · unfold f_X7_addSign
      refine kind_ok qa (ok_ne (in_ok rb ⟨by decide, by decide⟩ ⟨by decide, by decide⟩ (by omega) (ok_eq (in_ok rc ⟨by decide, by decide⟩ ⟨by decide, by decide⟩ (by omega) (ok_eq (in_ok rd ⟨by decide, by decide⟩ ⟨by decide, by decide⟩ (by omega) (ok_eq (in_ok re ⟨by decide, by decide⟩ ⟨by decide, by decide⟩ (by omega) (ok_ne ?_)))))))))
      exact ⟨⟨by omega, by omega⟩, fun z => by omega, fun _ => fails_ok hR hJ (by decide)⟩
  · unfold f_X7_addSign
    exact kind_no ra q (no_ne (fails_ok hR hJ (by decide)))
theorem o_removeSign {a : Int} {σ : St} {Kx : Int → St → Prop} {J : St → Prop} (ra : Rg a) (hR : REL σ) (hJ : ∀ τ : St, REL τ → J τ) (hK : ∀ (x : Int) (s : St), f_X7_removeSign a s (fun y t => TL x y t J) → Kx x s) : f_L_removeSign a σ Kx := by
  have hd := hR.d
  have hn := hd.n
  unfold f_L_removeSign f_X6_removeSign
  refine s6_demandSign hd hR.m ra (fun q => q_save hR fun τ p P hri hmi hcm => ?_) (fun q => ⟨fun _ => hK _ _ ?_, rfl⟩)
  · have hdt := hd.drop q.1 q.2
    refine s3_dropSign hcm.2.2.2.2.sg hn.2 q.1 q.2 fun σ2 ps g2 => ?_
    have M2 : Ms σ2 1 (dropS (σ 162) a) := g2.ms hd hcm.2.2.2.2 (fun c z1 z2 => ps.1 c (by omega)) (fun i i0 i1 i9 => dropS_lo q.1 i i9 i1)
    have e5 : σ2 1 5 = σ 162 9 - 1 := M2.n
    rw [e5]
    refine ⟨⟨by omega, by omega⟩, fun s3 e3 => hK _ _ ?_⟩
    have C3 : CM σ s3 (dropS (σ 162) a) p P := by rw [e3]; exact (hcm.ms (fun c z1 _ => ps.1 c (by omega)) M2).u _
    have h176 : s3 176 0 = σ 162 9 - 1 := by rw [e3, up_s]
    clear e3
    unfold f_X7_removeSign
    refine sign_ok (by rw [C3.row]; exact hd) (by rw [C3.row]; exact q) (ok_ne (s7_hold fun r0 h0 g0 => ?_))
    have t0 : r0 162 = σ 162 := by rw [h0 162 (by decide)]; exact C3.row
    refine s7_drops (by rw [t0]; exact hd) (by rw [t0]; exact q) fun r1 h1 row1 => ?_
    rw [t0] at row1
    have ka : r1 162 9 = σ 162 9 - 1 := by rw [row1]; rfl
    rw [ka]
    exact end_ok hR hdt hri hmi C3 (fun i i0 i1 => by rw [h1 164 (by decide), g0 i i0 i1, C3.row]) (fun c z1 z2 => by rw [h1 c z1, h0 c z2]) row1 ⟨by omega, by omega⟩ h176 hJ
  · unfold f_X7_removeSign
    exact sign_no hd ra q (no_ne (fails_ok hR hJ (by decide)))
/-! a sign moved -/
theorem Dm.mv {s : Rw} (hd : Dm s) {p c r : Int} (hp : 0 ≤ p ∧ p < s 9) (hc : 0 ≤ c ∧ c ≤ 199) (hr : 0 ≤ r ∧ r ≤ 199) : Dm (setF (setF s (111 + 5 * p + 1) c) (111 + 5 * p + 2) r) := by
  have eq : ∀ i : Int, i < 111 → setF (setF s (111 + 5 * p + 1) c) (111 + 5 * p + 2) r i = s i := fun i hi => by rw [setF_n (by omega), setF_n (by omega)]
  generalize ht : setF (setF s (111 + 5 * p + 1) c) (111 + 5 * p + 2) r = t at *
  have n0 := hd.n
  unfold Dm
  simp only [eq 0 (by decide), eq 1 (by decide), eq 2 (by decide), eq 3 (by decide), eq 4 (by decide), eq 5 (by decide), eq 6 (by decide), eq 7 (by decide), eq 8 (by decide), eq 9 (by decide)]
  refine ⟨hd.set.1, hd.set.2.1, hd.set.2.2.1, hd.set.2.2.2, hd.win.1, hd.win.2.1, hd.win.2.2.1, hd.win.2.2.2.1, hd.win.2.2.2.2, n0, fun g g0 g1 => ?_, fun k k0 k1 => ?_, fun k k0 k1 => ?_⟩
  · rw [eq _ (by omega)]; exact hd.way g g0 g1
  · have hk := hd.kind k k0 k1
    have e1 : rk t k = rk s k := eq _ (by omega)
    have e2 : gp t k = gp s k := eq _ (by omega)
    have e3 : nl t k = nl s k := eq _ (by omega)
    rw [e1, e2, e3]
    refine ⟨hk.1, hk.2.1, hk.2.2.1, fun i i0 i1 => ?_, fun i i0 i1 => ?_⟩
    · have e4 : lm t k i = lm s k i := eq _ (by omega)
      rw [e4]; exact hk.2.2.2.1 i i0 i1
    · have e4 : lm t k i = lm s k i := eq _ (by omega)
      have e5 : lm t k (i + 1) = lm s k (i + 1) := eq _ (by omega)
      rw [e4, e5]; exact hk.2.2.2.2 i i0 i1
  · have hs := hd.sign k k0 k1
    have e1 : kd t k = kd s k := by rw [← ht]; unfold kd; rw [setF_n (by omega), setF_n (by omega)]
    have e2 : co t k = if k = p then c else co s k := by
      rw [← ht]
      unfold co
      rw [setF_n (by omega), setF_if]
      by_cases q : k = p
      · rw [if_pos (by omega), if_pos q]
      · rw [if_neg (by omega), if_neg q]
    have e3 : ro t k = if k = p then r else ro s k := by
      rw [← ht]
      unfold ro
      rw [setF_if]
      by_cases q : k = p
      · rw [if_pos (by omega), if_pos q]
      · rw [if_neg (by omega), if_neg q, setF_n (by omega)]
    have e4 : va t k = va s k := by rw [← ht]; unfold va; rw [setF_n (by omega), setF_n (by omega)]
    have e5 : le' t k = le' s k := by rw [← ht]; unfold le'; rw [setF_n (by omega), setF_n (by omega)]
    rw [e1, e2, e3, e4, e5]
    refine ⟨hs.1, ?_, ?_, hs.2.2.2.1, hs.2.2.2.2⟩
    · split <;> omega
    · split <;> omega
theorem Ms.mv {σ : St} {b : Nat} {s : Rw} {p c r : Int} (hd : Dm s) (h : Ms σ b s) (hp : 0 ≤ p ∧ p < s 9) : Ms (up2 (up2 σ (b + 2) p c) (b + 3) p r) b (setF (setF s (111 + 5 * p + 1) c) (111 + 5 * p + 2) r) := by
  have eq : ∀ i : Int, i < 111 → setF (setF s (111 + 5 * p + 1) c) (111 + 5 * p + 2) r i = s i := fun i hi => by rw [setF_n (by omega), setF_n (by omega)]
  refine Sg.ms hd h ⟨?_, fun k k0 k1 => ⟨?_, ?_, ?_, ?_, ?_⟩⟩ (fun c g1 g2 => by rw [up_c (by omega), up_c (by omega)]) (fun i i0 i1 _ => eq i i1)
  · rw [up_c (by omega), up_c (by omega), eq 9 (by decide)]; exact h.n
  all_goals rw [eq 9 (by decide)] at k1
  all_goals have hs := h.sign k k0 k1
  · rw [up_c (by omega), up_c (by omega), hs.1]
    unfold kd
    rw [setF_n (by omega), setF_n (by omega)]
  · rw [up_c (by omega), up_if]
    unfold co
    rw [setF_n (by omega), setF_if]
    by_cases q : k = p
    · rw [if_pos q, if_pos (by omega)]
    · rw [if_neg q, if_neg (by omega)]; exact hs.2.1
  · rw [up_if]
    unfold ro
    rw [setF_if]
    by_cases q : k = p
    · rw [if_pos q, if_pos (by omega)]
    · rw [if_neg q, if_neg (by omega), up_c (by omega), setF_n (by omega)]; exact hs.2.2.1
  · rw [up_c (by omega), up_c (by omega), hs.2.2.2.1]
    unfold va
    rw [setF_n (by omega), setF_n (by omega)]
  · rw [up_c (by omega), up_c (by omega), hs.2.2.2.2]
    unfold le'
    rw [setF_n (by omega), setF_n (by omega)]
theorem o_moveSign {a b c : Int} {σ : St} {Kx : Int → St → Prop} {J : St → Prop} (ra : Rg a) (rb : Rg b) (rc : Rg c) (hR : REL σ) (hJ : ∀ τ : St, REL τ → J τ) (hK : ∀ (x : Int) (s : St), f_X7_moveSign a b c s (fun y t => TL x y t J) → Kx x s) : f_L_moveSign a b c σ Kx := by
  have hd := hR.d
  have hn := hd.n
  have x2 : Kx 2 σ → (2 = 1 → Kx 1 σ) ∧ (2 = 2 → Kx 2 σ) ∧ (2 = 1 ∨ 2 = 2) := fun z => ⟨fun t => absurd t (by decide), fun _ => z, Or.inr rfl⟩
  unfold f_L_moveSign f_X6_moveSign
  refine s6_demandSign hd hR.m ra (fun q => s6_demandBelow rb ⟨by decide, by decide⟩ (fun qb => s6_demandBelow rc ⟨by decide, by decide⟩ (fun qc => q_save hR fun τ p P hri hmi hcm => ?_) (fun qc => x2 (hK _ _ ?_))) (fun qb => x2 (hK _ _ ?_))) (fun q => ⟨fun _ => hK _ _ ?_, fun t => absurd t (by decide), Or.inl rfl⟩)
  · have hs := hd.sign a q.1 q.2
    have ms := hcm.2.2.2.2.sign a q.1 q.2
    have hdt := hd.mv (c := b) (r := c) q (by omega) (by omega)
    refine ⟨by omega, ?_⟩
    intro x2' e2
    have e2 : x2' = co (σ 162) a := e2.trans ms.2.1
    subst e2
    refine ⟨by omega, ?_⟩
    intro s3 e3
    refine ⟨by omega, ?_⟩
    intro s4 e4
    have M4 : Ms s4 1 (setF (setF (σ 162) (111 + 5 * a + 1) b) (111 + 5 * a + 2) c) := by rw [e4, e3]; exact hcm.2.2.2.2.mv hd q
    refine ⟨⟨by omega, by omega⟩, fun s5 e5 => hK _ _ ?_⟩
    have C3 : CM σ s5 (setF (setF (σ 162) (111 + 5 * a + 1) b) (111 + 5 * a + 2) c) p P := by rw [e5]; exact (hcm.ms (fun c z1 _ => by rw [e4, up_c (by omega), e3, up_c (by omega)]) M4).u _
    have h176 : s5 176 0 = co (σ 162) a := by rw [e5, up_s]
    unfold f_X7_moveSign
    refine sign_ok (by rw [C3.row]; exact hd) (by rw [C3.row]; exact q) (ok_ne (in_ok rb ⟨by decide, by decide⟩ ⟨by decide, by decide⟩ (by omega) (ok_eq (in_ok rc ⟨by decide, by decide⟩ ⟨by decide, by decide⟩ (by omega) (ok_ne (s7_hold fun r0 h0 g0 => s7_of1 ⟨q.1, by omega⟩ ?_))))))
    have t0 : r0 162 = σ 162 := by rw [h0 162 (by decide)]; exact C3.row
    rw [t0]
    refine ⟨by omega, ?_⟩
    intro s8 e8
    refine ⟨by omega, ?_⟩
    intro s9 e9
    exact end_ok hR hdt hri hmi C3 (fun i i0 i1 => by rw [e9, up_c (by decide), e8, up_c (by decide), g0 i i0 i1, C3.row]) (fun c z1 z2 => by rw [e9, up_c z1, e8, up_c z1, h0 c z2]) (by rw [e9, up_row, e8, up_row, t0]) ⟨by omega, by omega⟩ h176 hJ
  · unfold f_X7_moveSign
    exact sign_ok hd q (ok_ne (in_ok rb ⟨by decide, by decide⟩ ⟨by decide, by decide⟩ (by omega) (ok_eq (in_no rc ⟨by decide, by decide⟩ ⟨by decide, by decide⟩ (by omega) (no_ne (fails_ok hR hJ (by decide)))))))
  · unfold f_X7_moveSign
    exact sign_ok hd q (ok_ne (in_no rb ⟨by decide, by decide⟩ ⟨by decide, by decide⟩ (by omega) (no_eq (fails_ok hR hJ (by decide)))))
  · unfold f_X7_moveSign
    exact sign_no hd ra q (no_ne (fails_ok hR hJ (by decide)))
theorem o_setWindow {a b c d e : Int} {σ : St} {Kx : Int → St → Prop} {J : St → Prop} (ra : Rg a) (rb : Rg b) (rc : Rg c) (rd : Rg d) (re : Rg e) (hR : REL σ) (hJ : ∀ τ : St, REL τ → J τ) (hK : ∀ (x : Int) (s : St), f_X7_setWindow a b c d e s (fun y t => TL x y t J) → Kx x s) : f_L_setWindow a b c d e σ Kx := by
  have hd := hR.d
  have bad : ¬ ((0 ≤ a ∧ a ≤ 199) ∧ (0 ≤ b ∧ b ≤ 199) ∧ (10 ≤ c ∧ c ≤ 200) ∧ (10 ≤ d ∧ d ≤ 200) ∧ (0 ≤ e ∧ e ≤ 5)) → Kx 1 σ := fun q => by
    refine hK _ _ ?_
    unfold f_X7_setWindow
    by_cases qa : 0 ≤ a ∧ a ≤ 199
    · refine in_ok ra ⟨by decide, by decide⟩ ⟨by decide, by decide⟩ qa (ok_eq ?_)
      by_cases qb : 0 ≤ b ∧ b ≤ 199
      · refine in_ok rb ⟨by decide, by decide⟩ ⟨by decide, by decide⟩ qb (ok_eq ?_)
        by_cases qc : 10 ≤ c ∧ c ≤ 200
        · refine in_ok rc ⟨by decide, by decide⟩ ⟨by decide, by decide⟩ qc (ok_eq ?_)
          by_cases qd : 10 ≤ d ∧ d ≤ 200
          · refine in_ok rd ⟨by decide, by decide⟩ ⟨by decide, by decide⟩ qd (ok_eq ?_)
            exact in_no re ⟨by decide, by decide⟩ ⟨by decide, by decide⟩ (fun z => q ⟨qa, qb, qc, qd, z⟩) (no_ne (fails_ok hR hJ (by decide)))
          · exact in_no rd ⟨by decide, by decide⟩ ⟨by decide, by decide⟩ qd (no_eq (fails_ok hR hJ (by decide)))
        · exact in_no rc ⟨by decide, by decide⟩ ⟨by decide, by decide⟩ qc (no_eq (fails_ok hR hJ (by decide)))
      · exact in_no rb ⟨by decide, by decide⟩ ⟨by decide, by decide⟩ qb (no_eq (fails_ok hR hJ (by decide)))
    · exact in_no ra ⟨by decide, by decide⟩ ⟨by decide, by decide⟩ qa (no_eq (fails_ok hR hJ (by decide)))
  have x2 : Kx 1 σ → (2 = 2 → Kx 1 σ) ∧ 2 = 2 := fun z => ⟨fun _ => z, rfl⟩
  unfold f_L_setWindow f_X6_setWindow
  refine s6_demandBelow ra ⟨by decide, by decide⟩ (fun qa => s6_demandBelow rb ⟨by decide, by decide⟩ (fun qb => s6_demandSpan rc (fun qc => s6_demandSpan rd (fun qd => s6_demandBelow re ⟨by decide, by decide⟩ (fun qe => q_save hR fun τ p P hri hmi hcm => ?_) (fun q => x2 (bad (by omega)))) (fun q => x2 (bad (by omega)))) (fun q => x2 (bad (by omega)))) (fun q => x2 (bad (by omega)))) (fun q => x2 (bad (by omega)))
  have d1 : Dm (setF (σ 162) 4 a) := hd.low (by decide) (fun z => absurd z (by decide)) (fun z => absurd z (by decide)) (fun z => absurd z (by decide)) (fun z => absurd z (by decide)) (fun _ => by omega) (fun z => absurd z (by decide)) (fun z => absurd z (by decide))
  have d2 : Dm (setF (setF (σ 162) 4 a) 5 b) := d1.low (by decide) (fun z => absurd z (by decide)) (fun z => absurd z (by decide)) (fun z => absurd z (by decide)) (fun z => absurd z (by decide)) (fun _ => by omega) (fun z => absurd z (by decide)) (fun z => absurd z (by decide))
  have d3 : Dm (setF (setF (setF (σ 162) 4 a) 5 b) 6 c) := d2.low (by decide) (fun z => absurd z (by decide)) (fun z => absurd z (by decide)) (fun z => absurd z (by decide)) (fun z => absurd z (by decide)) (fun z => absurd z (by decide)) (fun _ => by omega) (fun z => absurd z (by decide))
  have d4 : Dm (setF (setF (setF (setF (σ 162) 4 a) 5 b) 6 c) 7 d) := d3.low (by decide) (fun z => absurd z (by decide)) (fun z => absurd z (by decide)) (fun z => absurd z (by decide)) (fun z => absurd z (by decide)) (fun z => absurd z (by decide)) (fun _ => by omega) (fun z => absurd z (by decide))
  have d5 : Dm (setF (setF (setF (setF (setF (σ 162) 4 a) 5 b) 6 c) 7 d) 8 e) := d4.low (by decide) (fun z => absurd z (by decide)) (fun z => absurd z (by decide)) (fun z => absurd z (by decide)) (fun z => absurd z (by decide)) (fun z => absurd z (by decide)) (fun z => absurd z (by decide)) (fun _ => by omega)
  intro s2 e2 s3 e3 s4 e4 s5 e5 s6 e6
  have M2 : Ms s2 1 (setF (σ 162) 4 a) := by rw [e2]; exact hcm.2.2.2.2.setW hd (j := 0) (by decide)
  have M3 : Ms s3 1 (setF (setF (σ 162) 4 a) 5 b) := by rw [e3]; exact M2.setW d1 (j := 1) (by decide)
  have M4 : Ms s4 1 (setF (setF (setF (σ 162) 4 a) 5 b) 6 c) := by rw [e4]; exact M3.setW d2 (j := 2) (by decide)
  have M5 : Ms s5 1 (setF (setF (setF (setF (σ 162) 4 a) 5 b) 6 c) 7 d) := by rw [e5]; exact M4.setW d3 (j := 3) (by decide)
  have M6 : Ms s6 1 (setF (setF (setF (setF (setF (σ 162) 4 a) 5 b) 6 c) 7 d) 8 e) := by rw [e6]; exact M5.setW d4 (j := 4) (by decide)
  have C6 := hcm.ms (ρ := s6) (fun c z1 _ => by rw [e6, up_c (by omega), e5, up_c (by omega), e4, up_c (by omega), e3, up_c (by omega), e2, up_c (by omega)]) M6
  clear e2 e3 e4 e5 e6 M2 M3 M4 M5 d1 d2 d3 d4
  refine s3_countShown d5 M6 ?_
  have hrow : ∀ (r : St), r 162 = σ 162 → setF (setF (setF (setF (setF (r 162) 4 a) 5 b) 6 c) 7 d) 8 e = setF (setF (setF (setF (setF (σ 162) 4 a) 5 b) 6 c) 7 d) 8 e := fun r z => by rw [z]
  generalize setF (setF (setF (setF (setF (σ 162) 4 a) 5 b) 6 c) 7 d) 8 e = t at *
  have hn := d5.n
  have hcr := cI_rg (sh' t) (n := t 9) hn.1 (by omega)
  refine ⟨hcr, fun s7 e7 => hK _ _ ?_⟩
  have C7 : CM σ s7 t p P := by rw [e7]; exact C6.u _
  have h176 : s7 176 0 = cI (sh' t) (t 9) := by rw [e7, up_s]
  unfold f_X7_setWindow
  refine in_ok ra ⟨by decide, by decide⟩ ⟨by decide, by decide⟩ (by omega) (ok_eq (in_ok rb ⟨by decide, by decide⟩ ⟨by decide, by decide⟩ (by omega) (ok_eq (in_ok rc ⟨by decide, by decide⟩ ⟨by decide, by decide⟩ (by omega) (ok_eq (in_ok rd ⟨by decide, by decide⟩ ⟨by decide, by decide⟩ (by omega) (ok_eq (in_ok re ⟨by decide, by decide⟩ ⟨by decide, by decide⟩ (by omega) (ok_ne (s7_hold fun r0 h0 g0 => ?_))))))))))
  have t0 : r0 162 = σ 162 := by rw [h0 162 (by decide)]; exact C7.row
  intro r1 f1 r2 f2 r3 f3 r4 f4 r5 f5
  have row5 : r5 162 = t := by rw [f5, up_row, f4, up_row, f3, up_row, f2, up_row, f1, up_row]; exact hrow r0 t0
  have k5 : ∀ c : Nat, c ≠ 162 → r5 c = r0 c := fun c z => by rw [f5, up_c z, f4, up_c z, f3, up_c z, f2, up_c z, f1, up_c z]
  refine s7_shownMany (by rw [row5]; exact d5) ?_
  rw [row5]
  exact end_ok hR d5 hri hmi C7 (fun i i0 i1 => by rw [k5 164 (by decide), g0 i i0 i1, C7.row]) (fun c z1 z2 => by rw [k5 c z1, h0 c z2]) row5 hcr h176 hJ
theorem o_set {a b : Int} {σ : St} {Kx : Int → St → Prop} {J : St → Prop} (ra : Rg a) (rb : Rg b) (hR : REL σ) (hJ : ∀ τ : St, REL τ → J τ) (hK : ∀ (x : Int) (s : St), f_X7_set a b s (fun y t => TL x y t J) → Kx x s) : f_L_set a b σ Kx := by
  have hd := hR.d
  have hset := hd.set
  have hmo : ∀ (s : St) (K : Int → Prop), 0 ≤ a ∧ a < 4 → K (hsetI a) → f_X7_mostOf a s K := fun s K q h => by
    unfold f_X7_mostOf
    unfold hsetI at h
    refine ⟨ra, fun z => ⟨ra, fun z1 => ⟨ra, fun z2 => ?_, fun z2 => ?_⟩, fun z1 => ?_⟩, fun z => ?_⟩
    · rw [if_neg (by omega), if_neg (by omega), if_neg (by omega)] at h; exact h
    · rw [if_neg (by omega), if_neg (by omega), if_pos (by omega)] at h; exact h
    · rw [if_neg (by omega), if_pos (by omega)] at h; exact h
    · rw [if_pos (by omega)] at h; exact h
  have hb : 0 ≤ a ∧ a < 4 → 1 ≤ hsetI a ∧ hsetI a ≤ 60 := fun q => by unfold hsetI; (repeat' split) <;> omega
  have hv : 0 ≤ a ∧ a < 4 → 1 ≤ σ 162 a ∧ σ 162 a ≤ 60 := fun q => by
    have : a = 0 ∨ a = 1 ∨ a = 2 ∨ a = 3 := by omega
    rcases this with e | e | e | e <;> subst e <;> omega
  have bad : 0 ≤ a ∧ a < 4 → ¬ (1 ≤ b ∧ b ≤ hsetI a) → Kx 1 σ := fun q z => by
    refine hK _ _ ?_
    unfold f_X7_set
    refine in_ok ra ⟨by decide, by decide⟩ ⟨by decide, by decide⟩ (by omega) (ok_eq (hmo _ _ q (in_no rb ⟨by decide, by decide⟩ ⟨by have := hb q; omega, by have := hb q; omega⟩ z (no_ne (fails_ok hR hJ (by decide))))))
  have x2 : Kx 1 σ → (2 = 2 → Kx 1 σ) ∧ 2 = 2 := fun z => ⟨fun _ => z, rfl⟩
  unfold f_L_set f_X6_set
  refine s6_demandBelow ra ⟨by decide, by decide⟩ (fun q => ⟨rb, fun z => x2 (bad q (by omega)), fun z1 => ⟨q, rb, ⟨by have := hb q; omega, by have := hb q; omega⟩, fun z2 => q_save hR fun τ p P hri hmi hcm => ?_, fun z2 => x2 (bad q (by omega))⟩⟩) (fun q => x2 (hK _ _ ?_))
  · have hdt : Dm (setF (σ 162) a b) := by
      unfold hsetI at z2
      refine hd.low (by omega) (fun e => ?_) (fun e => ?_) (fun e => ?_) (fun e => ?_) (fun e => by omega) (fun e => by omega) (fun e => by omega)
      · rw [if_pos e] at z2; omega
      · rw [if_neg (by omega), if_pos e] at z2; omega
      · rw [if_neg (by omega), if_neg (by omega), if_pos e] at z2; omega
      · rw [if_neg (by omega), if_neg (by omega), if_neg (by omega)] at z2; omega
    refine ⟨q, ?_⟩
    intro x2' e2
    have e2 : x2' = σ 162 a := e2.trans (hcm.2.2.2.2.set a q.1 q.2)
    subst e2
    refine ⟨q, ?_⟩
    intro s3 e3
    have M3 : Ms s3 1 (setF (σ 162) a b) := by rw [e3]; exact hcm.2.2.2.2.setS hd q
    have hva := hv q
    refine ⟨⟨by omega, by omega⟩, fun s5 e5 => hK _ _ ?_⟩
    have C3 : CM σ s5 (setF (σ 162) a b) p P := by rw [e5]; exact (hcm.ms (fun c z1 _ => by rw [e3, up_c (by omega)]) M3).u _
    have h176 : s5 176 0 = σ 162 a := by rw [e5, up_s]
    unfold f_X7_set
    refine in_ok ra ⟨by decide, by decide⟩ ⟨by decide, by decide⟩ (by omega) (ok_eq (hmo _ _ q (in_ok rb ⟨by decide, by decide⟩ ⟨by have := hb q; omega, by have := hb q; omega⟩ (by omega) (ok_ne (s7_hold fun r0 h0 g0 => ⟨by omega, ?_⟩)))))
    have t0 : r0 162 = σ 162 := by rw [h0 162 (by decide)]; exact C3.row
    intro x7 f7
    rw [t0] at f7
    subst f7
    refine ⟨by omega, ?_⟩
    intro s8 e8
    exact end_ok hR hdt hri hmi C3 (fun i i0 i1 => by rw [e8, up_c (by decide), g0 i i0 i1, C3.row]) (fun c z1 z2 => by rw [e8, up_c z1, h0 c z2]) (by rw [e8, up_row, t0]) ⟨by omega, by omega⟩ h176 hJ
  · unfold f_X7_set
    exact in_no ra ⟨by decide, by decide⟩ ⟨by decide, by decide⟩ (by omega) (no_eq (fails_ok hR hJ (by decide)))
