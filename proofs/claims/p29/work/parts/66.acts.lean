/-! ===== what the law does ===== -/
theorem bA_pos (x : Int) : 0 ≤ bA x 2147483647 ∧ bA x 2147483647 ≤ 2147483647 := by
  unfold bA
  rw [pk_and (iI x) 31 (m := iI 2147483647) (by decide +kernel)]
  have h : (iI x).toBitVec.toNat % 2 ^ 31 < 2 ^ 31 := Nat.mod_lt _ (by decide)
  rw [nI_toInt h]
  omega
theorem sL_low {a n : Int} {σ : St} {K : Int → Prop} (h0 : 0 < n) (h1 : n ≤ 2147483647) (h : ∀ r : Int, 0 ≤ r → r < n → K r) : f_L_low a n σ K := by
  have hb := bA_pos a
  exact ⟨hb, ⟨h0, h1⟩, h _ (Int.emod_nonneg _ (by omega)) (Int.emod_lt_of_pos _ h0)⟩
theorem md {v n : Int} (h : 0 < n) : 0 ≤ v % n ∧ v % n < n := ⟨Int.emod_nonneg _ (by omega), Int.emod_lt_of_pos _ h⟩
/-- only numbers below 15 changed -/
theorem sl_low {s t : Rw} (hs : SL s) (hd : Dm t) (e9 : t 9 = s 9) (e : ∀ i : Int, 15 ≤ i → t i = s i) : SL t := by
  refine ⟨hd, by rw [e9]; exact hs.n.2, fun k k0 k1 => ?_, fun k k0 k1 => ?_, fun k k0 k1 => ?_⟩
  · have e1 : rk t k = rk s k := e _ (by omega)
    have e2 : gp t k = gp s k := e _ (by omega)
    have := hs.k k0 k1
    rw [e1, e2]; omega
  · have e1 : rk t k = rk s k := e _ (by omega)
    have e2 : gp t k = gp s k := e _ (by omega)
    rw [e1, e2]; exact hs.hi k0 k1
  · have e1 : kd t k = kd s k := e _ (by omega)
    rw [e1]; exact (hs.kd k0 (by omega)).2
theorem RW.low {σ τ : St} {s t : Rw} (h : RW σ s) (hg : ∀ i : Int, 0 ≤ i → i < 15 → τ 161 i = t i) (e2 : τ 162 = σ 162) (e3 : τ 163 = σ 163) (e9 : t 9 = s 9) (e : ∀ i : Int, 15 ≤ i → t i = s i) : RW τ t := by
  refine ⟨hg, fun k k0 k1 => ?_, fun k k0 k1 => ?_, by rw [e3]; exact h.2.2.2⟩
  · have e4 : rk t k = rk s k := e _ (by omega)
    have e5 : gp t k = gp s k := e _ (by omega)
    have e6 : nl t k = nl s k := e _ (by omega)
    have hd := h.d k0 k1
    rw [e2, e4, e5, e6]
    refine ⟨hd.1, hd.2.1, hd.2.2.1, fun i i0 i1 => ?_⟩
    have e7 : lm t k i = lm s k i := e _ (by omega)
    rw [e7]; exact hd.2.2.2 i i0 i1
  · have e4 : kd t k = kd s k := e _ (by omega)
    have e5 : co t k = co s k := e _ (by omega)
    have e6 : ro t k = ro s k := e _ (by omega)
    have e7 : va t k = va s k := e _ (by omega)
    have e8 : le' t k = le' s k := e _ (by omega)
    rw [e3, e4, e5, e6, e7, e8]
    exact h.e k0 (by omega)
theorem a_win {v : Int} {s : Rw} {σ : St} {K : Int → St → Prop} (hR : REL σ s) (v0 : 0 ≤ v) (v1 : v < 10000000) (h : ∀ (τ : St) (t : Rw), REL τ t → K 1 τ) : ac_win v σ K := by
  have hs := hR.s
  have m1 := md (v := v) (n := 60) (by decide)
  have m2 := md (v := v / 60) (n := 60) (by decide)
  unfold ac_win
  refine ⟨by omega, fun s6 e6 => ⟨by omega, by omega, fun s7 e7 => ⟨by omega, by omega, ?_⟩⟩⟩
  refine wj1_intro (fun y => y = 60 ∨ y = 191) (fun y9 h9 => ?_) (fun J hJ => ⟨⟨by omega, by omega⟩, fun _ => hJ _ (Or.inl rfl), fun _ => hJ _ (Or.inr rfl)⟩)
  have m3 := md (v := v / 3600) (n := y9) (by omega)
  refine ⟨by omega, by omega, fun s10 e10 => ⟨by omega, by omega, ?_⟩⟩
  refine wj1_intro (fun y => y = 60 ∨ y = 191) (fun y12 h12 => ?_) (fun J hJ => ⟨⟨by omega, by omega⟩, fun _ => hJ _ (Or.inl rfl), fun _ => hJ _ (Or.inr rfl)⟩)
  have m4 := md (v := v / 7) (n := y12) (by omega)
  refine ⟨by omega, by omega, fun s13 e13 => ⟨by omega, ?_⟩⟩
  refine wj1_intro (fun y => 0 ≤ y ∧ y < 6) (fun y15 h15 => ?_) (fun J hJ => ⟨⟨by omega, by omega⟩, fun _ => ⟨by omega, by omega, hJ _ (md (by decide))⟩, fun _ => hJ _ (by decide)⟩)
  intro s16 e16
  generalize v % 60 = a at *
  generalize v / 60 % 60 = b at *
  generalize v / 3600 % y9 = c at *
  generalize v / 7 % y12 = d at *
  have kc : ∀ c : Nat, c ≠ 161 → s16 c = σ c := fun c hc => by rw [e16, up_c hc, e13, up_c hc, e10, up_c hc, e7, up_c hc, e6, up_c hc]
  have ki : ∀ i : Int, s16 161 i = if i = 8 then y15 else if i = 7 then 10 + d else if i = 6 then 10 + c else if i = 5 then b else if i = 4 then a else σ 161 i := fun i => by
    rw [e16, up_if, e13, up_if, e10, up_if, e7, up_if, e6, up_if]
  have g4 : s16 161 4 = a := by rw [ki]; rfl
  have g5 : s16 161 5 = b := by rw [ki]; rfl
  have g6 : s16 161 6 = 10 + c := by rw [ki]; rfl
  have g7 : s16 161 7 = 10 + d := by rw [ki]; rfl
  have g8 : s16 161 8 = y15 := by rw [ki]; rfl
  rw [g4, g5, g6, g7, g8]
  refine m_window hs.d (hR.2.2.go fun c hc => kc c (by omega)) (by omega) (by omega) (by omega) (by omega) (by omega) fun τ hv => ?_
  have hdt := (hs.d.win5 (a := a) (b := b) (c := 10 + c) (d := 10 + d) (e := y15) (by omega) (by omega) (by omega) (by omega) (by omega)).2
  have et : ∀ i : Int, i < 4 ∨ 8 < i → winS s a b (10 + c) (10 + d) y15 i = s i := fun i hi => by unfold winS; rw [setF_n (by omega), setF_n (by omega), setF_n (by omega), setF_n (by omega), setF_n (by omega)]
  have hst : SL (winS s a b (10 + c) (10 + d) y15) := sl_low hs hdt (et 9 (by decide)) (fun i hi => et i (by omega))
  have hrt : RW τ (winS s a b (10 + c) (10 + d) y15) := hR.r.low (fun i i0 i1 => by
    rw [hv.1 161 (by decide), ki]
    unfold winS
    simp only [setF_if]
    by_cases z8 : i = 8
    · rw [if_pos z8, if_pos z8]
    · rw [if_neg z8, if_neg z8]
      by_cases z7 : i = 7
      · rw [if_pos z7, if_pos z7]
      · rw [if_neg z7, if_neg z7]
        by_cases z6 : i = 6
        · rw [if_pos z6, if_pos z6]
        · rw [if_neg z6, if_neg z6]
          by_cases z5 : i = 5
          · rw [if_pos z5, if_pos z5]
          · rw [if_neg z5, if_neg z5]
            by_cases z4 : i = 4
            · rw [if_pos z4, if_pos z4]
            · rw [if_neg z4, if_neg z4]; exact hR.r.g i0 i1) (by rw [hv.1 162 (by decide)]; exact kc _ (by decide)) (by rw [hv.1 163 (by decide)]; exact kc _ (by decide)) (et 9 (by decide)) (fun i hi => et i (by omega))
  refine sL_shown hrt hst (sL_bits ?_)
  rw [shw_cI hst]
  have hn := hst.n
  exact same_ne (cI_rg _ hn.1 (by omega)) rfl (h τ _ ⟨hrt, hst, hv.c6⟩)
theorem a_set {v : Int} {s : Rw} {σ : St} {K : Int → St → Prop} (hR : REL σ s) (v0 : 0 ≤ v) (v1 : v < 10000000) (h : ∀ (τ : St) (t : Rw), REL τ t → K 1 τ) : ac_set v σ K := by
  have hs := hR.s
  have hS := hs.d.set
  unfold ac_set
  refine ⟨by omega, by omega, fun x36 e36 => ⟨by omega, ?_⟩⟩
  have hw : 0 ≤ x36 ∧ x36 < 4 := by rw [e36]; exact md (by decide)
  refine wj1_intro (fun y => y = hsetI x36) (fun y hy => ?_) (fun J hJ => ?_)
  · have hh : 1 ≤ hsetI x36 ∧ hsetI x36 ≤ 60 := by unfold hsetI; (repeat' split) <;> omega
    have m1 := md (v := v / 16) (n := y) (by omega)
    refine ⟨by omega, by omega, fun x39 e39 => ⟨by omega, fun x40 e40 => ⟨by omega, fun s41 e41 => ?_⟩⟩⟩
    rw [hR.r.g hw.1 (by omega)] at e40
    subst e40
    have hsr : 1 ≤ s x36 ∧ s x36 ≤ 60 := by
      have : x36 = 0 ∨ x36 = 1 ∨ x36 = 2 ∨ x36 = 3 := by omega
      rcases this with e | e | e | e <;> rw [e] <;> omega
    refine m_set hs.d (hR.2.2.go fun c hc => by rw [e41, up_c (by omega)]) hw (by omega) fun τ hv => ?_
    have hdt := hs.d.set1 hw (b := x39) (by omega)
    have et : ∀ i : Int, i ≠ x36 → setF s x36 x39 i = s i := fun i hi => setF_n hi
    have hst : SL (setF s x36 x39) := sl_low hs hdt (et 9 (by omega)) (fun i hi => et i (by omega))
    have hrt : RW τ (setF s x36 x39) := hR.r.low (fun i i0 i1 => by
      rw [hv.1 161 (by decide), e41, up_if, setF_if]
      split
      · rfl
      · exact hR.r.g i0 i1) (by rw [hv.1 162 (by decide), e41, up_c (by decide)]) (by rw [hv.1 163 (by decide), e41, up_c (by decide)]) (et 9 (by omega)) (fun i hi => et i (by omega))
    exact same_ne ⟨by omega, by omega⟩ rfl (h τ _ ⟨hrt, hst, hv.c6⟩)
  · exact ⟨⟨by omega, by omega⟩, fun z => ⟨⟨by omega, by omega⟩, fun z1 => ⟨⟨by omega, by omega⟩, fun z2 => hJ _ (by unfold hsetI; rw [if_neg z, if_neg z1, if_neg z2]), fun z2 => hJ _ (by unfold hsetI; rw [if_neg z, if_neg z1, if_pos (Decidable.not_not.mp z2)])⟩, fun z1 => hJ _ (by unfold hsetI; rw [if_neg z, if_pos (Decidable.not_not.mp z1)])⟩, fun z => hJ _ (by unfold hsetI; rw [if_pos (Decidable.not_not.mp z)])⟩
theorem a_way {v : Int} {s : Rw} {σ : St} {K : Int → St → Prop} (hR : REL σ s) (v0 : 0 ≤ v) (v1 : v < 10000000) (h : ∀ (τ : St) (t : Rw), REL τ t → K 1 τ) : ac_way v σ K := by
  have hs := hR.s
  have m3 := md (v := v) (n := 3) (by decide)
  have m4 := md (v := v / 3) (n := 4) (by decide)
  unfold ac_way
  generalize v % 3 = a at *
  refine ⟨by omega, by omega, fun x62 e62 => ⟨by omega, by omega, by omega, ?_⟩⟩
  rw [hR.r.g (by omega) (by omega)] at e62
  subst e62
  refine wj1_intro (fun y => y = 0 ∨ y = 1) (fun y hy => ?_) (fun J hJ => ⟨⟨by omega, by omega⟩, fun _ => hJ _ (Or.inl rfl), fun _ => hJ _ (Or.inr rfl)⟩)
  refine ⟨by omega, fun s65 e65 => ⟨by omega, by omega, by omega, ?_⟩⟩
  have ey : s65 161 (10 + a) = y := by rw [e65, up_s]
  rw [ey]
  have hw := hs.d.way a (by omega) (by omega)
  refine m_way hs.d (hR.2.2.go fun c hc => by rw [e65, up_c (by omega)]) (by omega) (by omega) fun τ hv => ?_
  have hdt := hs.d.wy (g := a) (w := y) (by omega) (by omega)
  have et : ∀ i : Int, i ≠ 10 + a → setF s (10 + a) y i = s i := fun i hi => setF_n hi
  have hst : SL (setF s (10 + a) y) := sl_low hs hdt (et 9 (by omega)) (fun i hi => et i (by omega))
  have hrt : RW τ (setF s (10 + a) y) := hR.r.low (fun i i0 i1 => by
    rw [hv.1 161 (by decide), e65, up_if, setF_if]
    split
    · rfl
    · exact hR.r.g i0 i1) (by rw [hv.1 162 (by decide), e65, up_c (by decide)]) (by rw [hv.1 163 (by decide), e65, up_c (by decide)]) (et 9 (by omega)) (fun i hi => et i (by omega))
  exact same_ne ⟨by omega, by omega⟩ rfl (h τ _ ⟨hrt, hst, hv.c6⟩)
theorem a_kin {v k : Int} {s : Rw} {σ : St} {K : Int → St → Prop} (hR : REL σ s) (v0 : 0 ≤ v) (v1 : v < 10000000) (k0 : 0 ≤ k) (k1 : k < 4) (h : ∀ (τ : St) (t : Rw), REL τ t → K 1 τ) : ac_kin v k σ K := by
  have hs := hR.s
  have m7 := md (v := v / 4) (n := 7) (by decide)
  have m4 := md (v := v / 28) (n := 4) (by decide)
  have hk := hs.k k0 k1
  unfold ac_kin
  generalize v / 4 % 7 = r at *
  generalize v / 28 % 4 = g at *
  refine ⟨by omega, fun x52 e52 => ⟨by omega, by omega, by omega, fun s53 e53 => ⟨by omega, by omega, by omega, fun s54 e54 => ⟨by omega, by omega, ?_⟩⟩⟩⟩
  rw [(hR.r.d k0 k1).1] at e52
  subst e52
  have y0 : s54 162 (8 * k) = r := by rw [e54, up_i (by omega), e53, up_s]
  have y1 : s54 162 (8 * k + 1) = g - 1 := by rw [e54, up_s]
  rw [y0, y1]
  refine m_kind hs.d (hR.2.2.go fun c hc => by rw [e54, up_c (by omega), e53, up_c (by omega)]) (by omega) (by omega) (by omega) fun τ hv => ?_
  have hdt := hs.d.kg (k := k) (r := r) (g := g - 1) (by omega) (by omega) (by omega)
  have et : ∀ i : Int, i ≠ 15 + 8 * k → i ≠ 15 + 8 * k + 1 → setF (setF s (15 + 8 * k) r) (15 + 8 * k + 1) (g - 1) i = s i := fun i h1 h2 => by rw [setF_n h2, setF_n h1]
  have ek : ∀ j : Int, 0 ≤ j → j < 12 → (rk (setF (setF s (15 + 8 * k) r) (15 + 8 * k + 1) (g - 1)) j = if j = k then r else rk s j) ∧ gp (setF (setF s (15 + 8 * k) r) (15 + 8 * k + 1) (g - 1)) j = if j = k then g - 1 else gp s j := fun j j0 j1 => by
    unfold rk gp
    by_cases z : j = k
    · subst z
      rw [if_pos rfl, if_pos rfl, setF_n (by omega), setF_s, setF_s]
      exact ⟨rfl, rfl⟩
    · rw [if_neg z, if_neg z, setF_n (by omega), setF_n (by omega), setF_n (by omega), setF_n (by omega)]
      exact ⟨rfl, rfl⟩
  have e9 := et 9 (by omega) (by omega)
  have hst : SL (setF (setF s (15 + 8 * k) r) (15 + 8 * k + 1) (g - 1)) := by
    refine ⟨hdt, by rw [e9]; exact hs.n.2, fun j j0 j1 => ?_, fun j j0 j1 => ?_, fun j j0 j1 => ?_⟩
    · have := ek j j0 (by omega)
      have hj := hs.k j0 j1
      rw [this.1, this.2]
      split <;> omega
    · have := ek j (by omega) j1
      rw [this.1, this.2, if_neg (by omega), if_neg (by omega)]
      exact hs.hi j0 j1
    · have : kd (setF (setF s (15 + 8 * k) r) (15 + 8 * k + 1) (g - 1)) j = kd s j := et _ (by omega) (by omega)
      rw [this]; exact (hs.kd j0 (by omega)).2
  have hrt : RW τ (setF (setF s (15 + 8 * k) r) (15 + 8 * k + 1) (g - 1)) := by
    refine ⟨fun i i0 i1 => ?_, fun j j0 j1 => ?_, fun j j0 j1 => ?_, ?_⟩
    · rw [hv.1 161 (by decide), e54, up_c (by decide), e53, up_c (by decide), et i (by omega) (by omega)]
      exact hR.r.g i0 i1
    · have hD := hR.r.d j0 j1
      have hek := ek j j0 (by omega)
      have en : nl (setF (setF s (15 + 8 * k) r) (15 + 8 * k + 1) (g - 1)) j = nl s j := et _ (by omega) (by omega)
      have hnl := (hs.d.kind j j0 (by omega)).2.2.1
      rw [hv.1 162 (by decide), hek.1, hek.2, en]
      by_cases z : j = k
      · subst z
        rw [if_pos rfl, if_pos rfl]
        refine ⟨y0, y1, by rw [e54, up_i (by omega), e53, up_i (by omega)]; exact hD.2.2.1, fun i i0 i1 => ?_⟩
        have el : lm (setF (setF s (15 + 8 * j) r) (15 + 8 * j + 1) (g - 1)) j i = lm s j i := et _ (by omega) (by omega)
        rw [el, e54, up_i (by omega), e53, up_i (by omega)]
        exact hD.2.2.2 i i0 i1
      · rw [if_neg z, if_neg z]
        refine ⟨by rw [e54, up_i (by omega), e53, up_i (by omega)]; exact hD.1, by rw [e54, up_i (by omega), e53, up_i (by omega)]; exact hD.2.1, by rw [e54, up_i (by omega), e53, up_i (by omega)]; exact hD.2.2.1, fun i i0 i1 => ?_⟩
        have el : lm (setF (setF s (15 + 8 * k) r) (15 + 8 * k + 1) (g - 1)) j i = lm s j i := et _ (by omega) (by omega)
        rw [el, e54, up_i (by omega), e53, up_i (by omega)]
        exact hD.2.2.2 i i0 i1
    · rw [e9] at j1
      have q1 : kd (setF (setF s (15 + 8 * k) r) (15 + 8 * k + 1) (g - 1)) j = kd s j := et _ (by omega) (by omega)
      have q2 : co (setF (setF s (15 + 8 * k) r) (15 + 8 * k + 1) (g - 1)) j = co s j := et _ (by omega) (by omega)
      have q3 : ro (setF (setF s (15 + 8 * k) r) (15 + 8 * k + 1) (g - 1)) j = ro s j := et _ (by omega) (by omega)
      have q4 : va (setF (setF s (15 + 8 * k) r) (15 + 8 * k + 1) (g - 1)) j = va s j := et _ (by omega) (by omega)
      have q5 : le' (setF (setF s (15 + 8 * k) r) (15 + 8 * k + 1) (g - 1)) j = le' s j := et _ (by omega) (by omega)
      rw [q1, q2, q3, q4, q5, hv.1 163 (by decide), e54, up_c (by decide), e53, up_c (by decide)]
      exact hR.r.e j0 j1
    · rw [hv.1 163 (by decide), e54, up_c (by decide), e53, up_c (by decide)]
      exact hR.r.2.2.2
  exact same_ne ⟨by omega, by omega⟩ rfl (h τ _ ⟨hrt, hst, hv.c6⟩)
