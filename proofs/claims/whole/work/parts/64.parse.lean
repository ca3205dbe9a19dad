/-! ===== the reference reads ===== -/
def M5 (σ : St) (t : Fn) (n : Int) : Prop := σ 161 6 = n ∧ (0 ≤ n ∧ n ≤ 160) ∧ (∀ i : Int, 0 ≤ i → i < n → σ 166 i = t i) ∧ ∀ i : Int, 0 ≤ i → i < n → 0 ≤ t i ∧ t i ≤ 127
def G7 (σ τ : St) : Prop := (∀ c : Nat, c ≠ 161 → c ≠ 162 → τ c = σ c) ∧ ∀ f : Int, f ≠ 27 → τ 161 f = σ 161 f
theorem G7.rf {σ : St} : G7 σ σ := ⟨fun _ _ _ => rfl, fun _ _ => rfl⟩
theorem G7.tr {σ τ ρ : St} (h : G7 σ τ) (g : G7 τ ρ) : G7 σ ρ := ⟨fun c h1 h2 => (g.1 c h1 h2).trans (h.1 c h1 h2), fun f h1 => (g.2 f h1).trans (h.2 f h1)⟩
theorem G7.m {σ τ : St} {t : Fn} {n : Int} (h : G7 σ τ) (g : M5 σ t n) : M5 τ t n := ⟨(h.2 6 (by decide)).trans g.1, g.2.1, fun i i0 i1 => by rw [h.1 166 (by decide) (by decide)]; exact g.2.2.1 i i0 i1, g.2.2.2⟩
theorem G7.sp {σ : St} {v : Int} : G7 σ (up2 σ 161 27 v) := ⟨fun c h1 _ => up_c h1, fun f hf => up_i hf⟩
theorem G7.ro {σ : St} {i v : Int} : G7 σ (up2 σ 162 i v) := ⟨fun c _ h2 => up_c h2, fun f _ => by rw [up_c (by decide)]⟩
theorem s7_isDigit {t : Fn} {n p : Int} {σ : St} {K : Int → Prop} (hM : M5 σ t n) (hp : σ 161 27 = p) (h0 : 0 ≤ p ∧ p ≤ n) (h : K (b01 (isD t n p))) : f_X7_isDigit σ K := by
  obtain ⟨h1, h2, h3, h4⟩ := hM
  unfold f_X7_isDigit
  rw [hp, h1]
  refine ⟨⟨by omega, by omega⟩, ⟨by omega, by omega⟩, fun z => ?_, fun z => ⟨by omega, ?_⟩⟩
  · have e : isD t n p = false := decide_eq_false (by omega)
    rw [e] at h; exact h
  · have hb := h4 p h0.1 (by omega)
    rw [h3 p h0.1 (by omega)]
    refine s7_in ⟨by omega, by omega⟩ ⟨by decide, by decide⟩ ⟨by decide, by decide⟩ (b01_split (fun r => ?_) (fun r => ?_))
    · have r := of_decide_eq_false r
      have e : isD t n p = false := decide_eq_false (by omega)
      rw [e] at h; exact h
    · have r := of_decide_eq_true r
      have e : isD t n p = true := decide_eq_true (by omega)
      rw [e] at h; exact h
theorem s7_isByte {t : Fn} {n p b : Int} {σ : St} {K : Int → St → Prop} (hM : M5 σ t n) (hp : σ 161 27 = p) (h0 : 0 ≤ p ∧ p ≤ n) (hb : Rg b) (ok : p < n ∧ t p = b → ∀ τ : St, G7 σ τ → τ 162 = σ 162 → τ 161 27 = p + 1 → K 1 τ) (no : ¬ (p < n ∧ t p = b) → K 0 σ) : f_X7_isByte b σ K := by
  obtain ⟨h1, h2, h3, h4⟩ := hM
  unfold f_X7_isByte
  rw [hp, h1]
  refine ⟨⟨by omega, by omega⟩, ⟨by omega, by omega⟩, fun z => no (by omega), fun z => ⟨by omega, ?_⟩⟩
  have hb2 := h4 p h0.1 (by omega)
  rw [h3 p h0.1 (by omega)]
  refine ⟨⟨by omega, by omega⟩, hb, fun z2 => no (fun y => z2 y.2), fun z2 => ?_⟩
  intro s1 e1
  exact ok ⟨by omega, Decidable.not_not.mp z2⟩ s1 (by rw [e1]; exact G7.sp) (by rw [e1, up_c (by decide)]) (by rw [e1, up_s])
theorem s7_isNumber {t : Fn} {n p bd a p3 : Int} {m : Nat} {σ : St} {K : Int → St → Prop} (hM : M5 σ t n) (hp : σ 161 27 = p) (h0 : 0 ≤ p ∧ p ≤ n) (ha : 0 ≤ a ∧ a < 311) (hm : m ≤ 4) (hb : p3 + 1 = bd) (rb : 0 ≤ p3 ∧ p3 ≤ 9999)
    (h : ∀ τ : St, G7 σ τ → (∀ i : Int, i ≠ a → τ 162 i = σ 162 i) → τ 161 27 = (numR t n m bd p).2.1 → ((numR t n m bd p).1 = true → τ 162 a = (numR t n m bd p).2.2) → K (b01 (numR t n m bd p).1) τ) : f_X7_isNumber a m p3 σ K := by
  have hn := hM.2.1
  unfold f_X7_isNumber
  intro x1 e1
  rw [hp] at e1
  subst e1
  refine ⟨ha, ?_⟩
  intro s2 e2
  refine wl0s_inv (fun τ => ∃ j : Nat, j ≤ m ∧ G7 σ τ ∧ (∀ i : Int, i ≠ a → τ 162 i = σ 162 i) ∧ (x1 ≤ τ 161 27 ∧ τ 161 27 ≤ n) ∧ τ 161 27 = x1 + j ∧ dl t n (m - j) (τ 161 27) = dl t n m x1 ∧ dv t n (m - j) (τ 161 27) (τ 162 a) = dv t n m x1 0 ∧ 0 ≤ τ 162 a ∧ ((j : Int) ≤ 0 → τ 162 a ≤ 0) ∧ ((j : Int) ≤ 1 → τ 162 a ≤ 9) ∧ ((j : Int) ≤ 2 → τ 162 a ≤ 99) ∧ ((j : Int) ≤ 3 → τ 162 a ≤ 999) ∧ ((j : Int) ≤ 4 → τ 162 a ≤ 9999)) (fun τ => (n - τ 161 27).toNat) ?_ ?_
  · rintro τ ag ⟨j, hj, hf, ho, hat, hat2, hdl, hdv, hx0, hx1, hx2, hx3, hx4, hx5⟩ hag
    have hM2 := hf.m hM
    generalize hq : τ 161 27 = q at *
    generalize hx : τ 162 a = x at *
    refine s7_isDigit hM2 hq ⟨by omega, hat.2⟩ ?_
    refine wj0_intro (q = dl t n m x1 ∧ x = dv t n m x1 0) (fun ⟨eq, ex⟩ => ?_) (fun J hJ => b01_split (fun r => hJ ?_) (fun r => ⟨⟨by omega, by omega⟩, ⟨by omega, by omega⟩, fun z => hJ ?_, fun z => ⟨ha, by have := isD_iff.mp r; omega, ha, ?_⟩⟩))
    · unfold numR at h
      rw [← eq, ← ex] at h
      have F : (numR t n m bd x1).1 = (numR t n m bd x1).1 := rfl
      refine ⟨⟨by omega, by omega⟩, ⟨by omega, by omega⟩, fun z => ?_, fun z => s7_isDigit hM2 hq ⟨by omega, hat.2⟩ (b01_split (fun r => ⟨ha, ⟨by omega, by omega⟩, ⟨by omega, by omega⟩, fun z2 => ?_, fun z2 => ?_⟩) (fun r => ?_))⟩
      · rw [if_pos (Or.inl z)] at h
        exact h τ hf ho hq (fun y => absurd y Bool.false_ne_true)
      · have hc : ¬ (q = x1 ∨ isD t n q = true) := fun y => y.elim z (fun y => by rw [r] at y; exact absurd y (by decide))
        rw [if_neg hc, if_neg (by omega)] at h
        refine s7_isByte hM2 hq ⟨by omega, hat.2⟩ ⟨by decide, by decide⟩ (fun y π hπ hrow h4 => ?_) (fun y => ?_)
        · rw [if_pos y] at h
          exact ⟨Or.inr rfl, h π (hf.tr hπ) (fun i hi => by rw [hrow]; exact ho i hi) h4 (fun _ => by rw [hrow]; exact hx)⟩
        · rw [if_neg y] at h
          exact ⟨Or.inl rfl, h τ hf ho hq (fun y => absurd y Bool.false_ne_true)⟩
      · intro s11 e11
        have hc : ¬ (q = x1 ∨ isD t n q = true) := fun y => y.elim z (fun y => by rw [r] at y; exact absurd y (by decide))
        rw [if_neg hc, if_pos (by omega)] at h
        exact h s11 (hf.tr (by rw [e11]; exact G7.sp)) (fun i hi => by rw [e11, up_c (by decide)]; exact ho i hi) (by rw [e11, up_s]) (fun y => absurd y Bool.false_ne_true)
      · rw [if_pos (Or.inr r)] at h
        exact h τ hf ho hq (fun y => absurd y Bool.false_ne_true)
    · rw [dl_no r] at hdl
      rw [dv_no r] at hdv
      exact ⟨hdl, hdv⟩
    · rw [show m - j = 0 by omega] at hdl hdv
      exact ⟨hdl, hdv⟩
    · have hr := isD_iff.mp r
      intro s6 e6 s7 e7
      rw [hM2.2.2.1 q hr.1 hr.2.1] at e6
      have e4 : s7 161 27 = q + 1 := by rw [e7, up_s, e6, up_c (by decide), hq]
      have e8 : s7 162 a = 10 * x + t q - 48 := by rw [e7, up_c (by decide), e6, up_s]
      rw [show m - j = (m - (j + 1)) + 1 by omega] at hdl hdv
      rw [dl_yes r] at hdl
      rw [dv_yes r, show x * 10 + (t q - 48) = 10 * x + t q - 48 by omega] at hdv
      refine hag _ ⟨j + 1, by omega, hf.tr (G7.tr (τ := s6) (by rw [e6]; exact G7.ro) (by rw [e7]; exact G7.sp)), fun i hi => by rw [e7, up_c (by decide), e6, up_i hi]; exact ho i hi, by rw [e4]; omega, by rw [e4]; omega, by rw [e4]; exact hdl, by rw [e4, e8]; exact hdv, by rw [e8]; omega, by omega, by rw [e8]; omega, by rw [e8]; omega, by rw [e8]; omega, by rw [e8]; omega⟩ (by rw [e4]; omega)
  · have k1 : s2 161 27 = x1 := by rw [e2, up_c (by decide)]; exact hp
    have k2 : s2 162 a = 0 := by rw [e2, up_s]
    refine ⟨0, Nat.zero_le _, by rw [e2]; exact G7.ro, fun i hi => by rw [e2, up_i hi], by rw [k1]; omega, by rw [k1]; omega, by rw [k1]; rfl, by rw [k1, k2]; rfl, by rw [k2]; decide, ?_⟩
    rw [k2]
    exact ⟨by decide, by decide, by decide, by decide, by decide⟩
theorem s7_isSignText {t : Fn} {n p : Int} {σ : St} {K : Int → St → Prop} (hM : M5 σ t n) (hp : σ 161 27 = p) (h0 : 0 ≤ p ∧ p ≤ n) (h9 : 0 ≤ σ 162 9 ∧ σ 162 9 < 40)
    (h : ∀ τ : St, G7 σ τ → τ 161 27 = (sgn t n p).2.1 → ((sgn t n p).1 = true → τ 162 = putX (σ 162) (sgn t n p).2.2) → (∀ i : Int, i < 0 ∨ 311 ≤ i → τ 162 i = σ 162 i) → K (b01 (sgn t n p).1) τ) : f_X7_isSignText σ K := by
  have hb1 := numR_bd (t := t) (m := 2) (bd := 12) h0.2
  have hb2 := numR_bd (t := t) (m := 3) (bd := 200) hb1.2.1
  have hb3 := numR_bd (t := t) (m := 3) (bd := 200) hb2.2.1
  have hb4 := numR_bd (t := t) (m := 4) (bd := 10000) hb3.2.1
  have hn := hM.2.1
  unfold f_X7_isSignText
  refine ⟨⟨by omega, by omega⟩, fun _ => ?_, fun z => by omega⟩
  intro x1 e1
  refine s7_isNumber (m := 2) (bd := 12) hM hp h0 (by omega) (by decide) (by decide) (by decide) fun s3 f3 o3 p3 v3 => ?_
  refine b01_split (fun qa => ?_) (fun qa => ?_)
  · have hv : (sgn t n p).1 = false ∧ (sgn t n p).2.1 = (numR t n 2 12 p).2.1 := by
      unfold sgn
      dsimp only
      rw [if_pos qa]
      exact ⟨rfl, rfl⟩
    rw [hv.1] at h
    exact h s3 f3 (p3.trans hv.2.symm) (fun y => absurd y Bool.false_ne_true) (fun i hi => o3 i (by omega))
  refine s7_isNumber (m := 3) (bd := 200) (f3.m hM) p3 ⟨by omega, hb1.2.1⟩ (by omega) (by decide) (by decide) (by decide) fun s5 f5 o5 p5 v5 => ?_
  refine b01_split (fun qb => ?_) (fun qb => ?_)
  · have hv : (sgn t n p).1 = false ∧ (sgn t n p).2.1 = (numR t n 3 200 (numR t n 2 12 p).2.1).2.1 := by
      unfold sgn
      dsimp only
      rw [if_neg (by rw [qa]; decide), if_pos qb]
      exact ⟨rfl, rfl⟩
    rw [hv.1] at h
    exact h s5 (f3.tr f5) (p5.trans hv.2.symm) (fun y => absurd y Bool.false_ne_true) (fun i hi => by rw [o5 i (by omega), o3 i (by omega)])
  refine s7_isNumber (m := 3) (bd := 200) ((f3.tr f5).m hM) p5 ⟨by omega, hb2.2.1⟩ (by omega) (by decide) (by decide) (by decide) fun s7 f7 o7 p7 v7 => ?_
  refine b01_split (fun qc => ?_) (fun qc => ?_)
  · have hv : (sgn t n p).1 = false ∧ (sgn t n p).2.1 = (numR t n 3 200 (numR t n 3 200 (numR t n 2 12 p).2.1).2.1).2.1 := by
      unfold sgn
      dsimp only
      rw [if_neg (by rw [qa]; decide), if_neg (by rw [qb]; decide), if_pos qc]
      exact ⟨rfl, rfl⟩
    rw [hv.1] at h
    exact h s7 ((f3.tr f5).tr f7) (p7.trans hv.2.symm) (fun y => absurd y Bool.false_ne_true) (fun i hi => by rw [o7 i (by omega), o5 i (by omega), o3 i (by omega)])
  refine s7_isNumber (m := 4) (bd := 10000) (((f3.tr f5).tr f7).m hM) p7 ⟨by omega, hb3.2.1⟩ (by omega) (by decide) (by decide) (by decide) fun s9 f9 o9 p9 v9 => ?_
  have F9 := ((f3.tr f5).tr f7).tr f9
  have M9 := F9.m hM
  have O9 : ∀ i : Int, i < 111 ∨ 311 ≤ i → s9 162 i = σ 162 i := fun i hi => by rw [o9 i (by omega), o7 i (by omega), o5 i (by omega), o3 i (by omega)]
  refine b01_tilps (fun qd => ?_) (fun qd => ?_)
  · rw [p9, M9.1]
    have hq : 0 ≤ (numR t n 4 10000 (numR t n 3 200 (numR t n 3 200 (numR t n 2 12 p).2.1).2.1).2.1).2.1 := by omega
    have hq2 := hb4.2.1
    have hbad : ¬ ((numR t n 4 10000 (numR t n 3 200 (numR t n 3 200 (numR t n 2 12 p).2.1).2.1).2.1).2.1 < n ∧ 48 ≤ t (numR t n 4 10000 (numR t n 3 200 (numR t n 3 200 (numR t n 2 12 p).2.1).2.1).2.1).2.1 ∧ t (numR t n 4 10000 (numR t n 3 200 (numR t n 3 200 (numR t n 2 12 p).2.1).2.1).2.1).2.1 ≤ 53) → K 0 s9 := fun z => by
      have hv : (sgn t n p).1 = false ∧ (sgn t n p).2.1 = (numR t n 4 10000 (numR t n 3 200 (numR t n 3 200 (numR t n 2 12 p).2.1).2.1).2.1).2.1 := by
        unfold sgn
        dsimp only
        rw [if_neg (by rw [qa]; decide), if_neg (by rw [qb]; decide), if_neg (by rw [qc]; decide), if_neg (by rw [qd]; decide), if_pos z]
        exact ⟨rfl, rfl⟩
      rw [hv.1] at h
      exact h s9 F9 (p9.trans hv.2.symm) (fun y => absurd y Bool.false_ne_true) (fun i hi => O9 i (by omega))
    refine ⟨⟨by omega, by omega⟩, ⟨by omega, by omega⟩, fun z => hbad (by omega), fun z => ⟨by omega, ?_⟩⟩
    have hby := hM.2.2.2 _ hq (by omega)
    rw [M9.2.2.1 _ hq (by omega)]
    refine s7_in ⟨by omega, by omega⟩ ⟨by decide, by decide⟩ ⟨by decide, by decide⟩ (b01_tilps (fun r => ⟨by omega, by omega, ?_⟩) (fun r => hbad ?_))
    · have r := of_decide_eq_true r
      intro s11 e11 s12 e12 s13 e13
      have k12 : s12 161 27 = (numR t n 4 10000 (numR t n 3 200 (numR t n 3 200 (numR t n 2 12 p).2.1).2.1).2.1).2.1 + 1 := by rw [e12, up_s, e11, up_c (by decide), p9]
      have k9 : s12 162 9 = σ 162 9 := by rw [e12, up_c (by decide), e11, up_i (by omega)]; exact O9 9 (by omega)
      rw [k9] at e13
      have G13 : G7 s9 s13 := (G7.tr (τ := s11) (by rw [e11]; exact G7.ro) (G7.tr (τ := s12) (by rw [e12]; exact G7.sp) (by rw [e13]; exact G7.ro)))
      have k13 : s13 161 27 = (numR t n 4 10000 (numR t n 3 200 (numR t n 3 200 (numR t n 2 12 p).2.1).2.1).2.1).2.1 + 1 := by rw [e13, up_c (by decide)]; exact k12
      have hrow : s13 162 = putX (σ 162) ((numR t n 2 12 p).2.2, (numR t n 3 200 (numR t n 2 12 p).2.1).2.2, (numR t n 3 200 (numR t n 3 200 (numR t n 2 12 p).2.1).2.1).2.2, (numR t n 4 10000 (numR t n 3 200 (numR t n 3 200 (numR t n 2 12 p).2.1).2.1).2.1).2.2, t (numR t n 4 10000 (numR t n 3 200 (numR t n 3 200 (numR t n 2 12 p).2.1).2.1).2.1).2.1 - 48) := by
        funext i
        have ei : s13 162 i = if i = 9 then σ 162 9 + 1 else if i = x1 + 4 then t (numR t n 4 10000 (numR t n 3 200 (numR t n 3 200 (numR t n 2 12 p).2.1).2.1).2.1).2.1 - 48 else s9 162 i := by
          rw [e13, up_if, e12, up_c (by decide), e11, up_if]
        rw [ei]
        unfold putX putS
        rw [← e1]
        by_cases c9 : i = 9
        · rw [if_pos c9, if_pos c9]
        · rw [if_neg c9, if_neg c9]
          by_cases c0 : i = x1
          · rw [if_neg (by omega), if_pos c0, c0, o9 _ (by omega), o7 _ (by omega), o5 _ (by omega)]; exact v3 qa
          · by_cases c1 : i = x1 + 1
            · rw [if_neg (by omega), if_neg c0, if_pos c1, c1, o9 _ (by omega), o7 _ (by omega)]; exact v5 qb
            · by_cases c2 : i = x1 + 2
              · rw [if_neg (by omega), if_neg c0, if_neg c1, if_pos c2, c2, o9 _ (by omega)]; exact v7 qc
              · by_cases c3 : i = x1 + 3
                · rw [if_neg (by omega), if_neg c0, if_neg c1, if_neg c2, if_pos c3, c3]; exact v9 qd
                · by_cases c4 : i = x1 + 4
                  · rw [if_pos c4, if_neg c0, if_neg c1, if_neg c2, if_neg c3, if_pos c4]
                  · rw [if_neg c4, if_neg c0, if_neg c1, if_neg c2, if_neg c3, if_neg c4, o9 _ c3, o7 _ c2, o5 _ c1, o3 _ c0]
      have O13 : ∀ i : Int, i < 0 ∨ 311 ≤ i → s13 162 i = σ 162 i := fun i hi => by
        rw [e13, up_i (by omega), e12, up_c (by decide), e11, up_i (by omega)]; exact O9 i (by omega)
      refine s7_isByte (G13.m M9) k13 ⟨by omega, by omega⟩ ⟨by decide, by decide⟩ (fun z2 π hπ prow ppos => ⟨Or.inr rfl, ?_⟩) (fun z2 => ⟨Or.inl rfl, ?_⟩)
      · have hv : sgn t n p = (true, (numR t n 4 10000 (numR t n 3 200 (numR t n 3 200 (numR t n 2 12 p).2.1).2.1).2.1).2.1 + 2, ((numR t n 2 12 p).2.2, (numR t n 3 200 (numR t n 2 12 p).2.1).2.2, (numR t n 3 200 (numR t n 3 200 (numR t n 2 12 p).2.1).2.1).2.2, (numR t n 4 10000 (numR t n 3 200 (numR t n 3 200 (numR t n 2 12 p).2.1).2.1).2.1).2.2, t (numR t n 4 10000 (numR t n 3 200 (numR t n 3 200 (numR t n 2 12 p).2.1).2.1).2.1).2.1 - 48)) := by
          unfold sgn
          dsimp only
          rw [if_neg (by rw [qa]; decide), if_neg (by rw [qb]; decide), if_neg (by rw [qc]; decide), if_neg (by rw [qd]; decide), if_neg (fun y => y ⟨by omega, by omega, by omega⟩), if_pos z2]
        rw [hv] at h
        exact h π ((F9.tr G13).tr hπ) (by rw [ppos]; show _ + 1 + 1 = _ + 2; omega) (fun _ => by rw [prow]; exact hrow) (fun i hi => by rw [prow]; exact O13 i hi)
      · have hv : (sgn t n p).1 = false ∧ (sgn t n p).2.1 = (numR t n 4 10000 (numR t n 3 200 (numR t n 3 200 (numR t n 2 12 p).2.1).2.1).2.1).2.1 + 1 := by
          unfold sgn
          dsimp only
          rw [if_neg (by rw [qa]; decide), if_neg (by rw [qb]; decide), if_neg (by rw [qc]; decide), if_neg (by rw [qd]; decide), if_neg (fun y => y ⟨by omega, by omega, by omega⟩), if_neg z2]
          exact ⟨rfl, rfl⟩
        rw [hv.1] at h
        exact h s13 (F9.tr G13) (k13.trans hv.2.symm) (fun y => absurd y Bool.false_ne_true) O13
    · have r := of_decide_eq_false r
      omega
  · have hv : (sgn t n p).1 = false ∧ (sgn t n p).2.1 = (numR t n 4 10000 (numR t n 3 200 (numR t n 3 200 (numR t n 2 12 p).2.1).2.1).2.1).2.1 := by
      unfold sgn
      dsimp only
      rw [if_neg (by rw [qa]; decide), if_neg (by rw [qb]; decide), if_neg (by rw [qc]; decide), if_pos qd]
      exact ⟨rfl, rfl⟩
    rw [hv.1] at h
    exact h s9 F9 (p9.trans hv.2.symm) (fun y => absurd y Bool.false_ne_true) (fun i hi => O9 i (by omega))
theorem s7_parse {t : Fn} {n : Int} {σ : St} {K : Int → St → Prop} (hd : Dm (σ 162)) (hM : M5 σ t n)
    (ok : (prF t n (σ 162)).1 = true → RA (σ 162) (prF t n (σ 162)).2.2 → ∀ τ : St, (∀ c : Nat, c ≠ 161 → c ≠ 162 → c ≠ 164 → τ c = σ c) → (∀ f : Int, f ≠ 27 → τ 161 f = σ 161 f) → (∀ i : Int, 0 ≤ i → i < 311 → τ 164 i = σ 162 i) → τ 162 = (prF t n (σ 162)).2.2 → f_X7_ends ((prF t n (σ 162)).2.2 9) τ K)
    (no : (prF t n (σ 162)).1 = false → ∀ τ : St, (∀ c : Nat, c ≠ 161 → c ≠ 162 → c ≠ 164 → τ c = σ c) → (∀ f : Int, f ≠ 27 → τ 161 f = σ 161 f) → τ 162 = σ 162 → f_X7_tells (-10 - (prF t n (σ 162)).2.1) τ K) : f_X7_parse σ K := by
  have hn := hM.2.1
  unfold f_X7_parse
  refine s7_hold fun r0 c0 g0 => ?_
  intro r1 f1 r2 f2
  have k0 : G7 r0 r2 := G7.tr (τ := r1) (by rw [f1]; exact G7.sp) (by rw [f2]; exact G7.ro)
  have row2 : r2 162 = setF (σ 162) 9 0 := by rw [f2, up_row, f1, up_c (by decide), c0 162 (by decide)]
  have p2 : r2 161 27 = 0 := by rw [f2, up_c (by decide), f1, up_s]
  clear f1 f2
  refine wl0s_inv (fun τ => G7 r0 τ ∧ (0 ≤ τ 161 27 ∧ τ 161 27 ≤ n) ∧ RA (σ 162) (τ 162) ∧ (∀ i : Int, i < 0 ∨ 311 ≤ i → τ 162 i = σ 162 i) ∧ prs t n (40 - τ 162 9).toNat (τ 161 27) (τ 162) = prF t n (σ 162)) (fun τ => (n - τ 161 27).toNat) ?_ ⟨k0, by rw [p2]; omega, by rw [row2]; exact RA.zero hd, fun i hi => by rw [row2, setF_n (by omega)], by rw [row2, p2, setF_s]; rfl⟩
  rintro τ ag ⟨hf, hp, hRA, hout, hpr⟩ hag
  have hM0 : M5 r0 t n := ⟨by rw [c0 161 (by decide)]; exact hM.1, hM.2.1, fun i i0 i1 => by rw [c0 166 (by decide)]; exact hM.2.2.1 i i0 i1, hM.2.2.2⟩
  have hMt := hf.m hM0
  have h9 := hRA.1.n
  have kc : ∀ c : Nat, c ≠ 161 → c ≠ 162 → c ≠ 164 → τ c = σ c := fun c z1 z2 z3 => by rw [hf.1 c z1 z2, c0 c z3]
  have kf : ∀ f : Int, f ≠ 27 → τ 161 f = σ 161 f := fun f z => by rw [hf.2 f z, c0 161 (by decide)]
  have k164 : ∀ i : Int, 0 ≤ i → i < 311 → τ 164 i = σ 162 i := fun i i0 i1 => by rw [hf.1 164 (by decide) (by decide)]; exact g0 i i0 i1
  rw [hMt.1]
  refine ⟨⟨by omega, by omega⟩, ⟨by omega, by omega⟩, fun z => ?_, fun z => ?_⟩
  · have ef : prF t n (σ 162) = (true, τ 161 27, τ 162) := by
      rw [← hpr]
      cases (40 - τ 162 9).toNat with
      | zero => unfold prs; rw [if_pos z]
      | succ f => unfold prs; rw [if_pos z]
    rw [ef] at ok
    exact ok rfl hRA τ kc kf k164 rfl
  · have back : ∀ (π : St) (q : Int), G7 τ π → (∀ i : Int, i < 0 ∨ 311 ≤ i → π 162 i = σ 162 i) → π 161 27 = q → (prF t n (σ 162)).1 = false → (prF t n (σ 162)).2.1 = q → f_X7_copies 162 164 π (fun s9 => f_X7_tells (-10 - s9 161 27) s9 (fun x10 s11 => K x10 s11)) := fun π q hg ho hq hno hpos => by
      refine s7_copies (by decide) fun s9 c9 v9 => ?_
      have e27 : s9 161 27 = (prF t n (σ 162)).2.1 := by rw [c9 161 (by decide), hq, hpos]
      rw [e27]
      refine no hno s9 (fun c z1 z2 z3 => by rw [c9 c z2, hg.1 c z1 z2]; exact kc c z1 z2 z3) (fun f hf2 => by rw [c9 161 (by decide), hg.2 f hf2]; exact kf f hf2) ?_
      funext i
      rw [v9 i]
      by_cases c : 0 ≤ i ∧ i < 311
      · rw [if_pos c, hg.1 164 (by decide) (by decide)]; exact k164 i c.1 c.2
      · rw [if_neg c]; exact ho i (by omega)
    by_cases c40 : τ 162 9 = 40
    · have ef : prF t n (σ 162) = (false, τ 161 27, τ 162) := by
        rw [← hpr, c40]
        show prs t n 0 (τ 161 27) (τ 162) = _
        unfold prs
        rw [if_neg (by omega)]
      unfold f_X7_isSignText
      rw [c40]
      exact ⟨⟨by decide, by decide⟩, fun y => absurd rfl y, fun _ => no_ne (back τ _ G7.rf hout rfl (by rw [ef]) (by rw [ef]))⟩
    · have hsg := sgn_bd (t := t) hp.1 hp.2
      have ef : prs t n (40 - τ 162 9).toNat (τ 161 27) (τ 162) = if (sgn t n (τ 161 27)).1 = true then prs t n (40 - (τ 162 9 + 1)).toNat (sgn t n (τ 161 27)).2.1 (putX (τ 162) (sgn t n (τ 161 27)).2.2) else (false, (sgn t n (τ 161 27)).2.1, τ 162) := by
        rw [show (40 - τ 162 9).toNat = (40 - (τ 162 9 + 1)).toNat + 1 by omega]
        show (if n ≤ τ 161 27 then _ else _) = _
        rw [if_neg (by omega)]
      rw [hpr] at ef
      refine s7_isSignText hMt rfl hp ⟨h9.1, by omega⟩ fun π hg hpos hrow ho => ?_
      have ho2 : ∀ i : Int, i < 0 ∨ 311 ≤ i → π 162 i = σ 162 i := fun i hi => (ho i hi).trans (hout i hi)
      refine b01_tilps (fun r => ?_) (fun r => ?_)
      · rw [if_pos r] at ef
        have hX := hsg.2.2 r
        have hput := hRA.put (x := (sgn t n (τ 161 27)).2.2) (by omega) hX.2
        have hrow := hrow r
        refine hag _ ⟨hf.tr hg, by rw [hpos]; omega, by rw [hrow]; exact hput.1, ho2, ?_⟩ (by rw [hpos]; omega)
        rw [hrow, hput.2, hpos]; exact ef.symm
      · rw [if_neg (by rw [r]; decide)] at ef
        exact back π _ hg ho2 hpos (by rw [ef]) (by rw [ef])
theorem end_eq {σ s3 ρ : St} {t : Rw} {p a : Int} {P : Int → Rw} {J : St → Prop} (hR : REL σ) (hdt : Dm t) (hri : RI σ p P) (hmi : MI σ p P) (hcm : CM σ s3 t p P) (hh : ∀ i : Int, 0 ≤ i → i < 311 → ρ 164 i = σ 162 i) (hc : ∀ c : Nat, c ≠ 161 → c ≠ 162 → c ≠ 164 → ρ c = s3 c) (hf : ∀ f : Int, f ≠ 27 → ρ 161 f = s3 161 f) (hrow : ρ 162 = t) (ha : Rg a) (hJ : ∀ τ : St, REL τ → J τ) : f_X7_ends a ρ (fun x s => EQ' a x s J) := by
  have k161 : s3 161 = σ 161 := hcm.1 161 (by decide) (by decide) (by decide)
  have k163 : ρ 163 = σ 163 := by rw [hc 163 (by decide) (by decide) (by decide)]; exact hcm.1 163 (by decide) (by decide) (by decide)
  refine s7_ends hri.2.2.1 (hmi.go (by rw [hf 4 (by decide), k161]) k163) hh fun π pc pf pm => ?_
  have hRp : REL π := mut_rel hR hdt hcm (fun c hc2 => by rw [pc c (by omega) (by omega), hc c (by omega) (by omega) (by omega)]) (by rw [pf 6 (by decide) (by decide), hf 6 (by decide), k161]) (by rw [pc 162 (by decide) (by decide)]; exact hrow) pm
  exact tells_eq hRp hJ ha
theorem o_parse {σ : St} {J : St → Prop} (hR : REL σ) (hJ : ∀ τ : St, REL τ → J τ) : f_X6_parse σ (fun x s => f_X7_parse s (fun y t => EQ' x y t J)) := by
  have hd := hR.d
  obtain ⟨t1, t2, t3⟩ := hR.t
  have hT : T5 σ (σ 94) (σ 93 1) := ⟨rfl, t1, rfl, fun i i0 i1 => (t3 i i0 i1).2⟩
  have hRs : ∀ s1 : St, (∀ c : Nat, c < 93 ∨ 100 < c ∨ c = 94 → s1 c = σ c) → s1 93 1 = σ 93 1 → REL s1 := fun s1 c1 e1 => by
    refine hR.tx (fun c hc => c1 c (by omega)) (by rw [c1 161 (by decide)]) ?_
    unfold TX
    rw [e1, c1 161 (by decide), c1 94 (by decide), c1 166 (by decide)]
    exact ⟨t1, t2, t3⟩
  have hMs : ∀ s1 : St, s1 161 6 = σ 93 1 → (s1 166 = σ 166) → M5 s1 (σ 94) (σ 93 1) := fun s1 h1 h2 => ⟨h1, t1, fun i i0 i1 => by rw [h2]; exact (t3 i i0 i1).1.symm, fun i i0 i1 => (t3 i i0 i1).2⟩
  unfold f_X6_parse
  refine s5_read (s := σ 162) hT hd (fun hok hRA s1 c1 e1 e3 hS => ?_) (fun hno s1 c1 e1 e3 hb => ?_)
  · rw [e3]
    refine ⟨⟨by decide, by decide⟩, fun _ => ?_, fun z => absurd rfl z⟩
    have hR1 := hRs s1 c1 e1
    have r1 : s1 162 = σ 162 := c1 162 (by decide)
    refine q_save hR1 fun τ p P hri hmi hcm => ?_
    refine s3_takeSigns (by decide) fun σ2 ⟨k1, k2, k3⟩ => ?_
    have hn := hRA.1.n
    have g2 := k3 _ (hS.go fun c z1 z2 => hcm.1 c (by omega) (by omega) (by omega)) hn.2
    have M2 : Ms σ2 1 (prF (σ 94) (σ 93 1) (σ 162)).2.2 := g2.ms (by rw [r1]; exact hd : Dm (s1 162)) hcm.2.2.2.2 (fun c z1 z2 => k1 c (by omega)) (fun i i0 i1 i9 => by rw [r1]; exact hRA.2 i i1 i9)
    have e5 : σ2 1 5 = (prF (σ 94) (σ 93 1) (σ 162)).2.2 9 := M2.n
    rw [e5]
    have C2 : CM s1 σ2 (prF (σ 94) (σ 93 1) (σ 162)).2.2 p P := hcm.ms (fun c z1 _ => k1 c (by omega)) M2
    have row2 : σ2 162 = σ 162 := C2.row.trans r1
    refine s7_parse (t := σ 94) (n := σ 93 1) (by rw [row2]; exact hd) (hMs σ2 ?_ ?_) (fun _ _ ρ rc rf r164 rrow => ?_) (fun hbad => ?_)
    · rw [C2.1 161 (by decide) (by decide) (by decide), c1 161 (by decide)]; exact t2
    · rw [C2.1 166 (by decide) (by decide) (by decide), c1 166 (by decide)]
    · rw [row2] at r164 rrow ⊢
      exact end_eq hR1 hRA.1 hri hmi C2 (fun i i0 i1 => by rw [r1]; exact r164 i i0 i1) rc rf rrow ⟨by omega, by omega⟩ hJ
    · rw [row2] at hbad
      rw [hok] at hbad
      exact absurd hbad (by decide)
  · rw [e3]
    refine ⟨⟨by omega, by omega⟩, fun z => by omega, fun _ => ?_⟩
    have hR1 := hRs s1 c1 e1
    have r1 : s1 162 = σ 162 := c1 162 (by decide)
    refine s7_parse (t := σ 94) (n := σ 93 1) hR1.d (hMs s1 ?_ ?_) (fun hbad => ?_) (fun _ ρ rc rf rrow => ?_)
    · rw [c1 161 (by decide)]; exact t2
    · exact c1 166 (by decide)
    · rw [r1] at hbad
      rw [hno] at hbad
      exact absurd hbad (by decide)
    · rw [r1]
      refine tells_eq (hR1.go (fun c hc => ?_) (rf 4 (by decide)) (rf 6 (by decide))) hJ ⟨by omega, by omega⟩
      by_cases q : c = 162
      · rw [q]; exact rrow
      · exact rc c (by omega) q (by omega)
