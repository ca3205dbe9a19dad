/-! ===== kinds, ways ===== -/
theorem Dm.kg {s : Rw} (hd : Dm s) {k r g : Int} (k0 : 0 ≤ k ∧ k < 12) (hr : 0 ≤ r ∧ r ≤ 99) (hg : -1 ≤ g ∧ g ≤ 4) : Dm (setF (setF s (15 + 8 * k) r) (15 + 8 * k + 1) g) := by
  have eq : ∀ i : Int, i ≠ 15 + 8 * k → i ≠ 15 + 8 * k + 1 → setF (setF s (15 + 8 * k) r) (15 + 8 * k + 1) g i = s i := fun i h1 h2 => by rw [setF_n h2, setF_n h1]
  have er : ∀ j : Int, rk (setF (setF s (15 + 8 * k) r) (15 + 8 * k + 1) g) j = if j = k then r else rk s j := fun j => by
    unfold rk
    rw [setF_n (by omega), setF_if]
    by_cases q : j = k
    · rw [if_pos (by omega), if_pos q]
    · rw [if_neg (by omega), if_neg q]
  have eg : ∀ j : Int, gp (setF (setF s (15 + 8 * k) r) (15 + 8 * k + 1) g) j = if j = k then g else gp s j := fun j => by
    unfold gp
    rw [setF_if]
    by_cases q : j = k
    · rw [if_pos (by omega), if_pos q]
    · rw [if_neg (by omega), if_neg q, setF_n (by omega)]
  generalize setF (setF s (15 + 8 * k) r) (15 + 8 * k + 1) g = t at *
  have n0 := hd.n
  unfold Dm
  simp only [eq 0 (by omega) (by omega), eq 1 (by omega) (by omega), eq 2 (by omega) (by omega), eq 3 (by omega) (by omega), eq 4 (by omega) (by omega), eq 5 (by omega) (by omega), eq 6 (by omega) (by omega), eq 7 (by omega) (by omega), eq 8 (by omega) (by omega), eq 9 (by omega) (by omega)]
  refine ⟨hd.set.1, hd.set.2.1, hd.set.2.2.1, hd.set.2.2.2, hd.win.1, hd.win.2.1, hd.win.2.2.1, hd.win.2.2.2.1, hd.win.2.2.2.2, n0, fun g g0 g1 => ?_, fun j j0 j1 => ?_, fun j j0 j1 => ?_⟩
  · rw [eq _ (by omega) (by omega)]; exact hd.way g g0 g1
  · have hk := hd.kind j j0 j1
    have e3 : nl t j = nl s j := eq _ (by omega) (by omega)
    rw [er j, eg j, e3]
    refine ⟨?_, ?_, hk.2.2.1, fun i i0 i1 => ?_, fun i i0 i1 => ?_⟩
    · split
      · exact hr
      · exact hk.1
    · split
      · exact hg
      · exact hk.2.1
    · have e4 : lm t j i = lm s j i := eq _ (by omega) (by omega)
      rw [e4]; exact hk.2.2.2.1 i i0 i1
    · have e4 : lm t j i = lm s j i := eq _ (by omega) (by omega)
      have e5 : lm t j (i + 1) = lm s j (i + 1) := eq _ (by omega) (by omega)
      rw [e4, e5]; exact hk.2.2.2.2 i i0 i1
  · have hs := hd.sign j j0 j1
    have e1 : kd t j = kd s j := eq _ (by omega) (by omega)
    have e2 : co t j = co s j := eq _ (by omega) (by omega)
    have e3 : ro t j = ro s j := eq _ (by omega) (by omega)
    have e4 : va t j = va s j := eq _ (by omega) (by omega)
    have e5 : le' t j = le' s j := eq _ (by omega) (by omega)
    rw [e1, e2, e3, e4, e5]; exact hs
theorem Ms.kg {σ : St} {b : Nat} {s : Rw} {k r g : Int} (hd : Dm s) (h : Ms σ b s) (k0 : 0 ≤ k ∧ k < 12) : Ms (up2 (up2 σ (b + 6) k r) (b + 7) k g) b (setF (setF s (15 + 8 * k) r) (15 + 8 * k + 1) g) := by
  have eq : ∀ i : Int, i ≠ 15 + 8 * k → i ≠ 15 + 8 * k + 1 → setF (setF s (15 + 8 * k) r) (15 + 8 * k + 1) g i = s i := fun i h1 h2 => by rw [setF_n h2, setF_n h1]
  refine h.chg (eq 9 (by omega) (by omega)) (fun i hi => eq i (by omega) (by omega)) (fun c g1 g2 => by rw [up_c (by omega), up_c (by omega)]) (fun j j0 j1 => ?_) (fun i i0 i1 => ?_) (fun i i0 i1 => ?_) (fun i i0 i1 => ?_)
  · have m := h.kind j j0 j1
    have hk := (hd.kind j j0 j1).2.2.1
    have e3 : nl (setF (setF s (15 + 8 * k) r) (15 + 8 * k + 1) g) j = nl s j := eq _ (by omega) (by omega)
    rw [e3]
    refine ⟨?_, ?_, by rw [up_c (by omega), up_c (by omega)]; exact m.2.2.1, fun i i0 i1 => ?_⟩
    · rw [up_c (by omega), up_if]
      unfold rk
      rw [setF_n (by omega), setF_if]
      by_cases q : j = k
      · rw [if_pos q, if_pos (by omega)]
      · rw [if_neg q, if_neg (by omega)]; exact m.1
    · rw [up_if]
      unfold gp
      rw [setF_if]
      by_cases q : j = k
      · rw [if_pos q, if_pos (by omega)]
      · rw [if_neg q, if_neg (by omega), up_c (by omega), setF_n (by omega)]; exact m.2.1
    · have e4 : lm (setF (setF s (15 + 8 * k) r) (15 + 8 * k + 1) g) j i = lm s j i := eq _ (by omega) (by omega)
      rw [e4, up_c (by omega), up_c (by omega)]; exact m.2.2.2 i i0 i1
  · rw [up_c (by omega), up_c (by omega), eq _ (by omega) (by omega)]; exact h.way i i0 i1
  · rw [up_c (by omega), up_c (by omega), eq _ (by omega) (by omega)]; exact h.win i i0 i1
  · rw [up_c (by omega), up_c (by omega), eq _ (by omega) (by omega)]; exact h.set i i0 i1
theorem Dm.wy {s : Rw} (hd : Dm s) {g w : Int} (g0 : 0 ≤ g ∧ g < 5) (hw : 0 ≤ w ∧ w ≤ 1) : Dm (setF s (10 + g) w) := by
  have eq : ∀ i : Int, i ≠ 10 + g → setF s (10 + g) w i = s i := fun i h1 => setF_n h1
  have ew : ∀ j : Int, setF s (10 + g) w (10 + j) = if j = g then w else s (10 + j) := fun j => by
    rw [setF_if]
    by_cases q : j = g
    · rw [if_pos (by omega), if_pos q]
    · rw [if_neg (by omega), if_neg q]
  generalize setF s (10 + g) w = t at *
  have n0 := hd.n
  unfold Dm
  simp only [eq 0 (by omega), eq 1 (by omega), eq 2 (by omega), eq 3 (by omega), eq 4 (by omega), eq 5 (by omega), eq 6 (by omega), eq 7 (by omega), eq 8 (by omega), eq 9 (by omega)]
  refine ⟨hd.set.1, hd.set.2.1, hd.set.2.2.1, hd.set.2.2.2, hd.win.1, hd.win.2.1, hd.win.2.2.1, hd.win.2.2.2.1, hd.win.2.2.2.2, n0, fun j j0 j1 => ?_, fun j j0 j1 => ?_, fun j j0 j1 => ?_⟩
  · rw [ew j]
    split
    · exact hw
    · exact hd.way j j0 j1
  · have hk := hd.kind j j0 j1
    have e1 : rk t j = rk s j := eq _ (by omega)
    have e2 : gp t j = gp s j := eq _ (by omega)
    have e3 : nl t j = nl s j := eq _ (by omega)
    rw [e1, e2, e3]
    refine ⟨hk.1, hk.2.1, hk.2.2.1, fun i i0 i1 => ?_, fun i i0 i1 => ?_⟩
    · have e4 : lm t j i = lm s j i := eq _ (by omega)
      rw [e4]; exact hk.2.2.2.1 i i0 i1
    · have e4 : lm t j i = lm s j i := eq _ (by omega)
      have e5 : lm t j (i + 1) = lm s j (i + 1) := eq _ (by omega)
      rw [e4, e5]; exact hk.2.2.2.2 i i0 i1
  · have hs := hd.sign j j0 j1
    have e1 : kd t j = kd s j := eq _ (by omega)
    have e2 : co t j = co s j := eq _ (by omega)
    have e3 : ro t j = ro s j := eq _ (by omega)
    have e4 : va t j = va s j := eq _ (by omega)
    have e5 : le' t j = le' s j := eq _ (by omega)
    rw [e1, e2, e3, e4, e5]; exact hs
theorem Ms.wy {σ : St} {b : Nat} {s : Rw} {g w : Int} (hd : Dm s) (h : Ms σ b s) (g0 : 0 ≤ g ∧ g < 5) : Ms (up2 σ (b + 10) g w) b (setF s (10 + g) w) := by
  have eq : ∀ i : Int, i ≠ 10 + g → setF s (10 + g) w i = s i := fun i h1 => setF_n h1
  refine h.chg (eq 9 (by omega)) (fun i hi => eq i (by omega)) (fun c g1 g2 => up_c (by omega)) (fun j j0 j1 => ?_) (fun i i0 i1 => ?_) (fun i i0 i1 => ?_) (fun i i0 i1 => ?_)
  · have m := h.kind j j0 j1
    have hk := (hd.kind j j0 j1).2.2.1
    have e1 : rk (setF s (10 + g) w) j = rk s j := eq _ (by omega)
    have e2 : gp (setF s (10 + g) w) j = gp s j := eq _ (by omega)
    have e3 : nl (setF s (10 + g) w) j = nl s j := eq _ (by omega)
    rw [e1, e2, e3, up_c (by omega), up_c (by omega), up_c (by omega), up_c (by omega)]
    refine ⟨m.1, m.2.1, m.2.2.1, fun i i0 i1 => ?_⟩
    have e4 : lm (setF s (10 + g) w) j i = lm s j i := eq _ (by omega)
    rw [e4]; exact m.2.2.2 i i0 i1
  · rw [up_if, setF_if]
    by_cases q : i = g
    · rw [if_pos q, if_pos (by omega)]
    · rw [if_neg q, if_neg (by omega)]; exact h.way i i0 i1
  · rw [up_c (by omega), eq _ (by omega)]; exact h.win i i0 i1
  · rw [up_c (by omega), eq _ (by omega)]; exact h.set i i0 i1
theorem o_setKind {a b c : Int} {σ : St} {Kx : Int → St → Prop} {J : St → Prop} (ra : Rg a) (rb : Rg b) (rc : Rg c) (hR : REL σ) (hJ : ∀ τ : St, REL τ → J τ) (hK : ∀ (x : Int) (s : St), f_X7_setKind a b c s (fun y t => TL x y t J) → Kx x s) : f_L_setKind a b c σ Kx := by
  have hd := hR.d
  have x2 : Kx 2 σ → (2 = 1 → Kx 1 σ) ∧ (2 = 2 → Kx 2 σ) ∧ (2 = 1 ∨ 2 = 2) := fun z => ⟨fun t => absurd t (by decide), fun _ => z, Or.inr rfl⟩
  have bad : 0 ≤ a ∧ a < 12 → ¬ ((0 ≤ b ∧ b ≤ 99) ∧ (-1 ≤ c ∧ c ≤ 4)) → Kx 2 σ := fun qa q => by
    refine hK _ _ ?_
    unfold f_X7_setKind
    refine kind_ok qa (ok_ne ?_)
    by_cases qb : 0 ≤ b ∧ b ≤ 99
    · refine in_ok rb ⟨by decide, by decide⟩ ⟨by decide, by decide⟩ qb (ok_eq ?_)
      exact in_no rc ⟨by decide, by decide⟩ ⟨by decide, by decide⟩ (fun z => q ⟨qb, z⟩) (no_ne (fails_ok hR hJ (by decide)))
    · exact in_no rb ⟨by decide, by decide⟩ ⟨by decide, by decide⟩ qb (no_eq (fails_ok hR hJ (by decide)))
  unfold f_L_setKind f_X6_setKind
  refine s6_demandKind ra (fun qa => s6_demandBelow rb ⟨by decide, by decide⟩ (fun qb => ?_) (fun q => x2 (bad qa (by omega)))) (fun q => ⟨fun _ => hK _ _ ?_, fun t => absurd t (by decide), Or.inl rfl⟩)
  · refine wj0_intro (-1 ≤ c ∧ c ≤ 4) (fun qc => q_save hR fun τ p P hri hmi hcm => ⟨qa, ?_⟩) (fun J0 h0 => ⟨rc, fun z => h0 (by omega), fun z => s6_demandBelow rc ⟨by decide, by decide⟩ (fun q => h0 (by omega)) (fun q => x2 (bad qa (by omega)))⟩)
    have hk := (hd.kind a qa.1 qa.2).1
    have hdt := hd.kg (r := b) (g := c) qa (by omega) qc
    intro x3 e3
    have e3 : x3 = rk (σ 162) a := e3.trans (hcm.2.2.2.2.kind a qa.1 qa.2).1
    subst e3
    refine ⟨qa, ?_⟩
    intro s4 e4
    refine ⟨qa, ?_⟩
    intro s5 e5
    have M5 : Ms s5 1 (setF (setF (σ 162) (15 + 8 * a) b) (15 + 8 * a + 1) c) := by rw [e5, e4]; exact hcm.2.2.2.2.kg hd qa
    refine ⟨⟨by omega, by omega⟩, fun s6 e6 => hK _ _ ?_⟩
    have C3 : CM σ s6 (setF (setF (σ 162) (15 + 8 * a) b) (15 + 8 * a + 1) c) p P := by rw [e6]; exact (hcm.ms (fun c z1 _ => by rw [e5, up_c (by omega), e4, up_c (by omega)]) M5).u _
    have h176 : s6 176 0 = rk (σ 162) a := by rw [e6, up_s]
    unfold f_X7_setKind
    refine kind_ok qa (ok_ne (in_ok rb ⟨by decide, by decide⟩ ⟨by decide, by decide⟩ (by omega) (ok_eq (in_ok rc ⟨by decide, by decide⟩ ⟨by decide, by decide⟩ qc (ok_ne (s7_hold fun r0 h0 g0 => s7_rankOf qa ?_))))))
    have t0 : r0 162 = σ 162 := by rw [h0 162 (by decide)]; exact C3.row
    rw [t0]
    refine ⟨by omega, ?_⟩
    intro s8 e8
    refine ⟨by omega, ?_⟩
    intro s9 e9
    exact end_ok hR hdt hri hmi C3 (fun i i0 i1 => by rw [e9, up_c (by decide), e8, up_c (by decide), g0 i i0 i1, C3.row]) (fun c z1 z2 => by rw [e9, up_c z1, e8, up_c z1, h0 c z2]) (by rw [e9, up_row, e8, up_row, t0]) ⟨by omega, by omega⟩ h176 hJ
  · unfold f_X7_setKind
    exact kind_no ra q (no_ne (fails_ok hR hJ (by decide)))
theorem o_setWay {a b : Int} {σ : St} {Kx : Int → St → Prop} {J : St → Prop} (ra : Rg a) (rb : Rg b) (hR : REL σ) (hJ : ∀ τ : St, REL τ → J τ) (hK : ∀ (x : Int) (s : St), f_X7_setWay a b s (fun y t => TL x y t J) → Kx x s) : f_L_setWay a b σ Kx := by
  have hd := hR.d
  have x1 : ¬ (0 ≤ a ∧ a < 5) → (1 = 1 → Kx 1 σ) ∧ (1 = 2 → Kx 2 σ) ∧ (1 = 1 ∨ 1 = 2) := fun z => ⟨fun _ => hK _ _ (by
    unfold f_X7_setWay
    exact in_no ra ⟨by decide, by decide⟩ ⟨by decide, by decide⟩ (by omega) (no_ne (fails_ok hR hJ (by decide)))), fun t => absurd t (by decide), Or.inl rfl⟩
  unfold f_L_setWay f_X6_setWay
  refine ⟨ra, fun z => x1 (by omega), fun z => ⟨ra, fun z2 => s6_demandBelow rb ⟨by decide, by decide⟩ (fun qb => q_save hR fun τ p P hri hmi hcm => ⟨by omega, ?_⟩) (fun q => ⟨fun t => absurd t (by decide), fun _ => hK _ _ ?_, Or.inr rfl⟩), fun z2 => x1 (by omega)⟩⟩
  · have hw := hd.way a (by omega) z2
    have hdt := hd.wy (g := a) (w := b) (by omega) (by omega)
    intro x3 e3
    have e3 : x3 = σ 162 (10 + a) := e3.trans (hcm.2.2.2.2.way a (by omega) z2)
    subst e3
    refine ⟨by omega, ?_⟩
    intro s4 e4
    have M5 : Ms s4 1 (setF (σ 162) (10 + a) b) := by rw [e4]; exact hcm.2.2.2.2.wy hd (by omega)
    refine ⟨⟨by omega, by omega⟩, fun s6 e6 => hK _ _ ?_⟩
    have C3 : CM σ s6 (setF (σ 162) (10 + a) b) p P := by rw [e6]; exact (hcm.ms (fun c z1 _ => by rw [e4, up_c (by omega)]) M5).u _
    have h176 : s6 176 0 = σ 162 (10 + a) := by rw [e6, up_s]
    unfold f_X7_setWay
    refine in_ok ra ⟨by decide, by decide⟩ ⟨by decide, by decide⟩ (by omega) (ok_ne (in_ok rb ⟨by decide, by decide⟩ ⟨by decide, by decide⟩ (by omega) (ok_ne (s7_hold fun r0 h0 g0 => ⟨by omega, ?_⟩))))
    have t0 : r0 162 = σ 162 := by rw [h0 162 (by decide)]; exact C3.row
    intro x4 f4
    rw [t0] at f4
    subst f4
    refine ⟨by omega, ?_⟩
    intro s8 e8
    exact end_ok hR hdt hri hmi C3 (fun i i0 i1 => by rw [e8, up_c (by decide), g0 i i0 i1, C3.row]) (fun c z1 z2 => by rw [e8, up_c z1, h0 c z2]) (by rw [e8, up_row, t0]) ⟨by omega, by omega⟩ h176 hJ
  · unfold f_X7_setWay
    exact in_ok ra ⟨by decide, by decide⟩ ⟨by decide, by decide⟩ (by omega) (ok_ne (in_no rb ⟨by decide, by decide⟩ ⟨by decide, by decide⟩ (by omega) (no_ne (fails_ok hR hJ (by decide)))))
/-! ===== undo ===== -/
theorem o_undo {σ : St} {Kx : Int → St → Prop} {J : St → Prop} (hR : REL σ) (hJ : ∀ τ : St, REL τ → J τ) (hK : ∀ (x : Int) (s : St), f_X7_undo s (fun y t => TL x y t J) → Kx x s) : f_L_undo σ Kx := by
  obtain ⟨p, P, ⟨h1, h2, h3, h4⟩, hmi⟩ := hR.p
  unfold f_L_undo f_X6_undo
  rw [h2]
  refine ⟨⟨by omega, by omega⟩, fun q => ?_, fun q => ⟨fun _ => hK _ _ ?_, rfl⟩⟩
  · intro s1 e1
    have a6 : s1 0 6 = σ 0 6 := by rw [e1, up_i (by decide)]
    have a7 : s1 0 7 = p - 1 := by rw [e1, up_s]
    rw [a6, a7]
    refine ⟨⟨by omega, by omega⟩, ⟨by omega, by omega⟩, ?_⟩
    intro r2 e2
    have er : r2 = slot (σ 0 6) (p - 1) := e2
    have hb := slotB h1.1 (by omega : 0 ≤ p - 1)
    rw [← er] at hb
    have hP := h4 (p - 1) (by omega) (by omega)
    rw [← er] at hP
    refine s3_copyFrom (by omega) fun σ3 ⟨c3, _, m3⟩ => ?_
    have M3 : Ms σ3 1 (P (p - 1)) := m3 _ hP.1 (hP.2.go fun c g1 g2 => by rw [e1, up_c (by omega)])
    intro s4 e4
    have k4 : ∀ c : Nat, c ≠ 0 → c ≠ 14 → (c < 1 ∨ 13 < c) → s4 c = σ c := fun c z1 z2 z3 => by rw [e4, up_c z2, c3 c (by omega), e1, up_c z1]
    have k07 : s4 0 7 = p - 1 := by rw [e4, up_c (by decide), c3 0 (by decide)]; exact a7
    have k06 : s4 0 6 = σ 0 6 := by rw [e4, up_c (by decide), c3 0 (by decide)]; exact a6
    rw [k07]
    refine ⟨⟨by omega, by omega⟩, fun s5 e5 => hK _ _ ?_⟩
    have k5 : ∀ c : Nat, c ≠ 176 → s5 c = s4 c := fun c z => by rw [e5, up_c z]
    have m5 : s5 161 = σ 161 := by rw [k5 161 (by decide), k4 161 (by decide) (by decide) (by decide)]
    have m163 : s5 163 = σ 163 := by rw [k5 163 (by decide), k4 163 (by decide) (by decide) (by decide)]
    unfold f_X7_undo
    rw [m5, hmi.1]
    refine ⟨⟨by omega, by omega⟩, fun _ => ?_, fun z => by omega⟩
    intro r1 f1
    refine wl1s_inv (fun i ρ => (0 ≤ i ∧ i ≤ 311) ∧ (∀ c : Nat, c ≠ 162 → ρ c = r1 c) ∧ ∀ j : Int, 0 ≤ j → j < i → ρ 162 j = P (p - 1) j) (fun i _ => (311 - i).toNat) ?_ ⟨by omega, fun _ _ => rfl, fun j j0 j1 => by omega⟩
    rintro i ρ ag ⟨hi, rc, rj⟩ hag
    have n4 : ρ 161 4 = p - 1 := by rw [rc 161 (by decide), f1, up_s]
    refine ⟨⟨by omega, by omega⟩, fun z => ?_, fun z => ?_⟩
    · have e : i = 311 := by omega
      subst e
      rw [n4]
      have hag162 : ∀ j : Int, 0 ≤ j → j < 311 → ρ 162 j = P (p - 1) j := rj
      have kc : ∀ c : Nat, c ≠ 161 → c ≠ 162 → ρ c = s5 c := fun c z1 z2 => by rw [rc c z2, f1, up_c z1]
      obtain ⟨_, _, _, g4, _, g6, g7⟩ := hR
      have hRρ : REL ρ := by
        refine ⟨hP.1.go hag162, (M3.cong hP.1 hag162).go fun c z1 z2 => ?_, ⟨p - 1, P, ⟨by rw [kc 0 (by decide) (by decide), k5 0 (by decide), k06]; exact h1, by rw [kc 0 (by decide) (by decide), k5 0 (by decide)]; exact k07, by omega, fun j j0 j1 => ?_⟩, ⟨n4, fun j i j0 j1 i0 i1 => ?_⟩⟩, ?_, Or.inl ?_, ?_, ?_⟩
        · rw [kc c (by omega) (by omega), k5 c (by omega), e4, up_c (by omega)]
        · have hj := h4 j j0 (by omega)
          have hsb := slotB h1.1 j0
          rw [kc 0 (by decide) (by decide), k5 0 (by decide), k06]
          exact ⟨hj.1, hj.2.go fun c z1 z2 => by rw [kc c (by omega) (by omega), k5 c (by omega), k4 c (by omega) (by omega) (by omega)]⟩
        · rw [kc 163 (by decide) (by decide), m163]; exact hmi.2 j i j0 (by omega) i0 i1
        · have e6 : ρ 161 6 = σ 161 6 := by rw [rc 161 (by decide), f1, up_i (by decide), m5]
          unfold TX
          rw [e6, kc 93 (by decide) (by decide), kc 94 (by decide) (by decide), kc 166 (by decide) (by decide), k5 93 (by decide), k5 94 (by decide), k5 166 (by decide), k4 93 (by decide) (by decide) (by decide), k4 94 (by decide) (by decide) (by decide), k4 166 (by decide) (by decide) (by decide)]
          exact g4
        · rw [kc 14 (by decide) (by decide), k5 14 (by decide), e4, up_s]
        · rw [kc 24 (by decide) (by decide), k5 24 (by decide), k4 24 (by decide) (by decide) (by decide)]; exact g6
        · rw [kc 70 (by decide) (by decide), k5 70 (by decide), k4 70 (by decide) (by decide) (by decide)]; exact g7
      exact tells_ok hRρ hJ ⟨by omega, by omega⟩ (by rw [kc 176 (by decide) (by decide), e5, up_s])
    · rw [n4]
      refine ⟨by omega, by omega, ?_⟩
      intro s6 e6
      refine hag _ _ ⟨by omega, fun c g => by rw [e6, up_c g]; exact rc c g, fun j j0 j1 => ?_⟩ (by omega)
      rw [e6]
      by_cases c : j = i
      · rw [c, up_s, rc 163 (by decide), f1, up_c (by decide), m163]; exact hmi.2 (p - 1) i (by omega) (by omega) hi.1 (by omega)
      · rw [up_i c]; exact rj j j0 (by omega)
  · unfold f_X7_undo
    rw [hmi.1]
    exact ⟨⟨by omega, by omega⟩, fun z => by omega, fun _ => fails_ok hR hJ (by decide)⟩
/-! ===== the text ===== -/
theorem REL.tx {σ τ : St} (h : REL σ) (e : ∀ c : Nat, c < 93 ∨ (107 < c ∧ c < 161) ∨ c = 162 ∨ c = 163 → τ c = σ c) (e4 : τ 161 4 = σ 161 4) (t : TX τ) : REL τ := by
  obtain ⟨h1, h2, ⟨p, P, h3, h4⟩, h5, h6, h7, h8⟩ := h
  have e162 := e 162 (by decide)
  refine ⟨by rw [e162]; exact h1, by rw [e162]; exact h2.go fun c g1 g2 => e c (by omega), ⟨p, P, h3.go (by rw [e 0 (by decide)]) (by rw [e 0 (by decide)]) (fun c g1 g2 => e c (by omega)), h4.go e4 (e 163 (by decide))⟩, t, ?_, by rw [e 24 (by decide)]; exact h7, by rw [e 70 (by decide)]; exact h8⟩
  rw [e 14 (by decide), e162]
  rcases h6 with z | ⟨z, l⟩
  · exact Or.inl z
  · exact Or.inr ⟨z, l.go fun c g1 g2 => e c (by omega)⟩
theorem o_append {a : Int} {σ : St} {Kx : Int → St → Prop} {J : St → Prop} (ra : Rg a) (hR : REL σ) (hJ : ∀ τ : St, REL τ → J τ) (hK : ∀ (x : Int) (s : St), f_X7_append a s (fun y t => TL x y t J) → Kx x s) : f_L_append a σ Kx := by
  obtain ⟨t1, t2, t3⟩ := hR.t
  unfold f_L_append f_X6_append
  refine s6_demandBelow ra ⟨by decide, by decide⟩ (fun q => ⟨⟨by omega, by omega⟩, fun z => ?_, fun z => ⟨fun t => absurd t (by decide), fun _ => hK _ _ ?_, Or.inr rfl⟩⟩) (fun q => ⟨fun _ => hK _ _ ?_, fun t => absurd t (by decide), Or.inl rfl⟩)
  · unfold f_X5_put
    refine ⟨⟨by omega, by omega⟩, fun z1 => by omega, fun _ => ⟨⟨by omega, by omega⟩, fun z1 => by omega, fun _ => ⟨by omega, ?_⟩⟩⟩
    intro s1 e1 s2 e2
    have b1 : s1 93 1 = σ 93 1 := by rw [e1, up_c (by decide)]
    have b2 : s2 93 1 = σ 93 1 + 1 := by rw [e2, up_s, b1]
    rw [b2]
    refine ⟨⟨by omega, by omega⟩, fun s3 e3 => hK _ _ ?_⟩
    have c161 : s3 161 = σ 161 := by rw [e3, up_c (by decide), e2, up_c (by decide), e1, up_c (by decide)]
    unfold f_X7_append
    rw [c161, t2]
    refine in_ok ra ⟨by decide, by decide⟩ ⟨by decide, by decide⟩ (by omega) (ok_ne ⟨⟨by omega, by omega⟩, fun _ => ⟨by omega, ?_⟩, fun z1 => by omega⟩)
    intro r2 f2 r3 f3
    have d6 : r3 161 6 = σ 93 1 + 1 := by rw [f3, up_s, f2, up_c (by decide), c161, t2]
    rw [d6]
    have k : ∀ c : Nat, c ≠ 93 → c ≠ 94 → c ≠ 161 → c ≠ 166 → c ≠ 176 → r3 c = σ c := fun c z1 z2 z3 z4 z5 => by rw [f3, up_c z3, f2, up_c z4, e3, up_c z5, e2, up_c z1, e1, up_c z2]
    have k93 : r3 93 1 = σ 93 1 + 1 := by rw [f3, up_c (by decide), f2, up_c (by decide), e3, up_c (by decide)]; exact b2
    refine tells_ok (hR.tx (fun c hc => k c (by omega) (by omega) (by omega) (by omega) (by omega)) (by rw [f3, up_i (by decide), f2, up_c (by decide), c161]) ⟨by rw [k93]; omega, by rw [d6, k93], fun i i0 i1 => ?_⟩) hJ ⟨by omega, by omega⟩ (by rw [f3, up_c (by decide), f2, up_c (by decide), e3, up_s])
    rw [k93] at i1
    have g94 : r3 94 i = if i = σ 93 1 then a else σ 94 i := by rw [f3, up_c (by decide), f2, up_c (by decide), e3, up_c (by decide), e2, up_c (by decide), e1, up_if]
    have g166 : r3 166 i = if i = σ 93 1 then a else σ 166 i := by rw [f3, up_c (by decide), f2, up_if, e3, up_c (by decide), e2, up_c (by decide), e1, up_c (by decide)]
    rw [g94, g166]
    by_cases c : i = σ 93 1
    · rw [if_pos c, if_pos c]; exact ⟨rfl, by omega, by omega⟩
    · rw [if_neg c, if_neg c]; exact t3 i i0 (by omega)
  · unfold f_X7_append
    rw [t2]
    exact in_ok ra ⟨by decide, by decide⟩ ⟨by decide, by decide⟩ (by omega) (ok_ne ⟨⟨by omega, by omega⟩, fun z1 => by omega, fun _ => fails_ok hR hJ (by decide)⟩)
  · unfold f_X7_append
    exact in_no ra ⟨by decide, by decide⟩ ⟨by decide, by decide⟩ (by omega) (no_ne (fails_ok hR hJ (by decide)))
theorem o_clearText {σ : St} {J : St → Prop} (hR : REL σ) (hJ : ∀ τ : St, REL τ → J τ) : f_X6_clearText σ (fun x s => f_X7_clearText s (fun y t => EQ' x y t J)) := by
  obtain ⟨t1, t2, t3⟩ := hR.t
  unfold f_X6_clearText f_X7_clearText
  intro x1 e1 s2 e2 x3 e3 s4 e4
  have c161 : s2 161 = σ 161 := by rw [e2, up_c (by decide)]
  rw [c161, t2, ← e1] at e3
  subst e3
  refine tells_eq (hR.tx (fun c hc => by rw [e4, up_c (by omega), e2, up_c (by omega)]) (by rw [e4, up_i (by decide), c161]) ?_) hJ ⟨by omega, by omega⟩
  have k93 : s4 93 1 = 0 := by rw [e4, up_c (by decide), e2, up_s]
  refine ⟨by rw [k93]; decide, by rw [k93, e4, up_s], fun i i0 i1 => by omega⟩
