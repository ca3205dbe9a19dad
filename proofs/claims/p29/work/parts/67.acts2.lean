/-! ===== what the law does: signs dropped, moved and added ===== -/
theorem sL_closes {n : Int} {σ : St} {K : St → Prop} (n0 : 0 ≤ n) (n1 : n ≤ 11) (h : ∀ τ : St, (∀ c : Nat, c ≠ 163 → τ c = σ c) → (∀ i : Int, τ 163 i = if 5 * n ≤ i ∧ i < 55 then σ 163 (i + 5) else σ 163 i) → K τ) : f_L_closes n σ K := by
  unfold f_L_closes
  intro x1 e1
  subst e1
  refine wl1s_inv (fun x τ => (5 * n ≤ x ∧ x ≤ 55) ∧ (∀ c : Nat, c ≠ 163 → τ c = σ c) ∧ ∀ i : Int, τ 163 i = if 5 * n ≤ i ∧ i < x then σ 163 (i + 5) else σ 163 i) (fun x _ => (55 - x).toNat) ?_ ⟨by omega, fun _ _ => rfl, fun i => by rw [if_neg (by omega)]⟩
  rintro x τ ag ⟨hx, hc, hi⟩ hag
  refine ⟨⟨by omega, by omega⟩, fun q => ?_, fun q => ⟨by omega, by omega, fun s4 e4 => hag _ _ ⟨by omega, fun c z => by rw [e4, up_c z]; exact hc c z, fun i => ?_⟩ (by omega)⟩⟩
  · have : x = 55 := by omega
    subst this
    exact h τ hc hi
  · have e5 : τ 163 (x + 5) = σ 163 (x + 5) := by rw [hi, if_neg (by omega)]
    rw [e4, up_if, e5]
    by_cases z : i = x
    · rw [if_pos z, if_pos (show 5 * n ≤ i ∧ i < x + 1 by omega), z]
    · rw [if_neg z, hi i]
      by_cases z2 : 5 * n ≤ i ∧ i < x
      · rw [if_pos z2, if_pos (show 5 * n ≤ i ∧ i < x + 1 by omega)]
      · rw [if_neg z2, if_neg (show ¬ (5 * n ≤ i ∧ i < x + 1) by omega)]
theorem a_drp {v n : Int} {s : Rw} {σ : St} {K : Int → St → Prop} (hR : REL σ s) (v0 : 0 ≤ v) (v1 : v < 10000000) (hn : s 9 ≠ 0 → 0 ≤ n ∧ n < s 9) (h : ∀ (τ : St) (t : Rw), REL τ t → K 1 τ) : ac_drp v n σ K := by
  have hs := hR.s
  have hN := hs.n
  have e9 : σ 161 9 = s 9 := hR.r.g (by decide) (by decide)
  have m3 := md (v := v) (n := 3) (by decide)
  unfold ac_drp
  rw [e9]
  refine wj0_intro True (fun _ => m_dropNo hs.d hR.2.2 rfl ⟨by decide, fun z => absurd rfl z, fun _ => h σ s hR⟩) (fun J hJ => ⟨⟨by omega, by omega⟩, fun _ => hJ trivial, fun z => ⟨⟨by omega, by omega⟩, ⟨by omega, by omega⟩, fun q => ?_, fun _ => hJ trivial⟩⟩)
  have hn := hn z
  refine sL_closes hn.1 (by omega) fun τ tc ti s148 e148 => ?_
  have k9 : s148 161 9 = s 9 - 1 := by rw [e148, up_s, tc 161 (by decide), e9]
  refine m_drop hs.d (hR.2.2.go fun c hc => by rw [e148, up_c (by omega), tc c (by omega)]) hn fun ρ hv => ?_
  have lo : ∀ i : Int, i ≠ 9 → i < 111 → dropS s n i = s i := dropS_lo hn.1
  have hst : SL (dropS s n) := by
    refine ⟨hs.d.drop hn.1 hn.2, by rw [dropS_n]; omega, fun k k0 k1 => ?_, fun k k0 k1 => ?_, fun k k0 k1 => ?_⟩
    · have e1 : rk (dropS s n) k = rk s k := lo _ (by omega) (by omega)
      have e2 : gp (dropS s n) k = gp s k := lo _ (by omega) (by omega)
      have := hs.k k0 k1
      rw [e1, e2]; omega
    · have e1 : rk (dropS s n) k = rk s k := lo _ (by omega) (by omega)
      have e2 : gp (dropS s n) k = gp s k := lo _ (by omega) (by omega)
      rw [e1, e2]; exact hs.hi k0 k1
    · rw [dropS_n] at k1
      rw [(dropS_g hn.1 k0 k1).1]
      split
      · exact (hs.kd (by omega) (by omega)).2
      · exact (hs.kd (by omega) (by omega)).2
  have hrt : RW ρ (dropS s n) := by
    refine ⟨fun i i0 i1 => ?_, fun k k0 k1 => ?_, fun k k0 k1 => ?_, fun i i0 i1 => ?_⟩
    · rw [hv.1 161 (by decide)]
      by_cases z9 : i = 9
      · rw [z9, k9, dropS_n]
      · rw [e148, up_i z9, tc 161 (by decide), lo i z9 (by omega)]; exact hR.r.g i0 i1
    · have e1 : rk (dropS s n) k = rk s k := lo _ (by omega) (by omega)
      have e2 : gp (dropS s n) k = gp s k := lo _ (by omega) (by omega)
      have e3 : nl (dropS s n) k = nl s k := lo _ (by omega) (by omega)
      have hD := hR.r.d k0 k1
      have hnl := (hs.d.kind k k0 (by omega)).2.2.1
      rw [hv.1 162 (by decide), e148, up_c (by decide), tc 162 (by decide), e1, e2, e3]
      refine ⟨hD.1, hD.2.1, hD.2.2.1, fun i i0 i1 => ?_⟩
      have e4 : lm (dropS s n) k i = lm s k i := lo _ (by omega) (by omega)
      rw [e4]; exact hD.2.2.2 i i0 i1
    · rw [dropS_n] at k1
      have g := dropS_g (s := s) hn.1 k0 k1
      rw [g.1, g.2.1, g.2.2.1, g.2.2.2.1, g.2.2.2.2, hv.1 163 (by decide), e148, up_c (by decide), ti (5 * k), ti (5 * k + 1), ti (5 * k + 2), ti (5 * k + 3), ti (5 * k + 4)]
      by_cases z : n ≤ k
      · have he := hR.r.e (k := k + 1) (by omega) (by omega)
        rw [if_pos (show 5 * n ≤ 5 * k ∧ 5 * k < 55 by omega), if_pos (show 5 * n ≤ 5 * k + 1 ∧ 5 * k + 1 < 55 by omega), if_pos (show 5 * n ≤ 5 * k + 2 ∧ 5 * k + 2 < 55 by omega), if_pos (show 5 * n ≤ 5 * k + 3 ∧ 5 * k + 3 < 55 by omega), if_pos (show 5 * n ≤ 5 * k + 4 ∧ 5 * k + 4 < 55 by omega), if_pos z]
        rw [show 5 * k + 5 = 5 * (k + 1) by omega, show 5 * k + 1 + 5 = 5 * (k + 1) + 1 by omega, show 5 * k + 2 + 5 = 5 * (k + 1) + 2 by omega, show 5 * k + 3 + 5 = 5 * (k + 1) + 3 by omega, show 5 * k + 4 + 5 = 5 * (k + 1) + 4 by omega]
        exact he
      · rw [if_neg (show ¬ (5 * n ≤ 5 * k ∧ 5 * k < 55) by omega), if_neg (show ¬ (5 * n ≤ 5 * k + 1 ∧ 5 * k + 1 < 55) by omega), if_neg (show ¬ (5 * n ≤ 5 * k + 2 ∧ 5 * k + 2 < 55) by omega), if_neg (show ¬ (5 * n ≤ 5 * k + 3 ∧ 5 * k + 3 < 55) by omega), if_neg (show ¬ (5 * n ≤ 5 * k + 4 ∧ 5 * k + 4 < 55) by omega), if_neg z]
        exact hR.r.e k0 (by omega)
    · rw [hv.1 163 (by decide), e148, up_c (by decide), ti]
      split
      · exact hR.r.b (by omega) (by omega)
      · exact hR.r.b i0 i1
  have r9 : ρ 161 9 = s 9 - 1 := by rw [hv.1 161 (by decide), k9]
  rw [r9]
  exact same_ne ⟨by omega, by omega⟩ rfl (h ρ _ ⟨hrt, hst, hv.c6⟩)
theorem a_mov {v n : Int} {s : Rw} {σ : St} {K : Int → St → Prop} (hR : REL σ s) (v0 : 0 ≤ v) (v1 : v < 10000000) (hn : s 9 ≠ 0 → 0 ≤ n ∧ n < s 9) (h : ∀ (τ : St) (t : Rw), REL τ t → K 1 τ) : ac_mov v n σ K := by
  have hs := hR.s
  have hN := hs.n
  have e9 : σ 161 9 = s 9 := hR.r.g (by decide) (by decide)
  have m1 := md (v := v / 12) (n := 120) (by decide)
  have m2 := md (v := v / 1440) (n := 120) (by decide)
  unfold ac_mov
  rw [e9]
  generalize v / 12 % 120 = b at *
  generalize v / 1440 % 120 = c at *
  refine ⟨⟨by omega, by omega⟩, fun z => ?_, fun z => m_moveNo hs.d hR.2.2 (by omega) ⟨by decide, fun z => absurd rfl z, fun _ => h σ s hR⟩⟩
  have hn := hn z
  have he := hR.r.e hn.1 hn.2
  have hg := hs.d.sign n hn.1 hn.2
  refine ⟨by omega, fun x153 e153 => ⟨⟨by omega, by omega⟩, ⟨by omega, by omega⟩, by omega, fun s154 e154 => ⟨⟨by omega, by omega⟩, ⟨by omega, by omega⟩, by omega, fun s155 e155 => ⟨by omega, by omega, ?_⟩⟩⟩⟩
  rw [he.2.1] at e153
  subst e153
  have g1 : s155 163 (5 * n + 1) = b := by rw [e155, up_i (by omega), e154, up_s]
  have g2 : s155 163 (5 * n + 2) = c := by rw [e155, up_s]
  rw [g1, g2]
  refine m_move hs.d (hR.2.2.go fun c hc => by rw [e155, up_c (by omega), e154, up_c (by omega)]) hn (by omega) (by omega) fun τ hv => ?_
  have hdt := hs.d.mv hn (c := b) (r := c) (by omega) (by omega)
  have et : ∀ i : Int, i ≠ 111 + 5 * n + 1 → i ≠ 111 + 5 * n + 2 → setF (setF s (111 + 5 * n + 1) b) (111 + 5 * n + 2) c i = s i := fun i h1 h2 => by rw [setF_n h2, setF_n h1]
  have e1' : setF (setF s (111 + 5 * n + 1) b) (111 + 5 * n + 2) c (111 + 5 * n + 1) = b := by rw [setF_n (by omega), setF_s]
  have e2' : setF (setF s (111 + 5 * n + 1) b) (111 + 5 * n + 2) c (111 + 5 * n + 2) = c := by rw [setF_s]
  generalize setF (setF s (111 + 5 * n + 1) b) (111 + 5 * n + 2) c = t at *
  have t9 := et 9 (by omega) (by omega)
  have hst : SL t := by
    refine ⟨hdt, by rw [t9]; exact hs.n.2, fun k k0 k1 => ?_, fun k k0 k1 => ?_, fun k k0 k1 => ?_⟩
    · have e1 : rk t k = rk s k := et _ (by omega) (by omega)
      have e2 : gp t k = gp s k := et _ (by omega) (by omega)
      have := hs.k k0 k1
      rw [e1, e2]; omega
    · have e1 : rk t k = rk s k := et _ (by omega) (by omega)
      have e2 : gp t k = gp s k := et _ (by omega) (by omega)
      rw [e1, e2]; exact hs.hi k0 k1
    · have e1 : kd t k = kd s k := et _ (by omega) (by omega)
      rw [e1]; exact (hs.kd k0 (by omega)).2
  have hrt : RW τ t := by
    refine ⟨fun i i0 i1 => ?_, fun k k0 k1 => ?_, fun k k0 k1 => ?_, fun i i0 i1 => ?_⟩
    · rw [hv.1 161 (by decide), e155, up_c (by decide), e154, up_c (by decide), et i (by omega) (by omega)]
      exact hR.r.g i0 i1
    · have e1 : rk t k = rk s k := et _ (by omega) (by omega)
      have e2 : gp t k = gp s k := et _ (by omega) (by omega)
      have e3 : nl t k = nl s k := et _ (by omega) (by omega)
      have hD := hR.r.d k0 k1
      have hnl := (hs.d.kind k k0 (by omega)).2.2.1
      rw [hv.1 162 (by decide), e155, up_c (by decide), e154, up_c (by decide), e1, e2, e3]
      refine ⟨hD.1, hD.2.1, hD.2.2.1, fun i i0 i1 => ?_⟩
      have e4 : lm t k i = lm s k i := et _ (by omega) (by omega)
      rw [e4]; exact hD.2.2.2 i i0 i1
    · rw [t9] at k1
      have hk := hR.r.e k0 k1
      have q1 : kd t k = kd s k := et _ (by omega) (by omega)
      have q4 : va t k = va s k := et _ (by omega) (by omega)
      have q5 : le' t k = le' s k := et _ (by omega) (by omega)
      rw [q1, q4, q5, hv.1 163 (by decide)]
      by_cases z : k = n
      · subst z
        have q2 : co t k = b := e1'
        have q3 : ro t k = c := e2'
        rw [q2, q3]
        refine ⟨?_, g1, g2, ?_, ?_⟩
        · rw [e155, up_i (by omega), e154, up_i (by omega)]; exact hk.1
        · rw [e155, up_i (by omega), e154, up_i (by omega)]; exact hk.2.2.2.1
        · rw [e155, up_i (by omega), e154, up_i (by omega)]; exact hk.2.2.2.2
      · have q2 : co t k = co s k := et _ (by omega) (by omega)
        have q3 : ro t k = ro s k := et _ (by omega) (by omega)
        have o : ∀ j : Int, 0 ≤ j → j < 5 → s155 163 (5 * k + j) = σ 163 (5 * k + j) := fun j j0 j1 => by rw [e155, up_i (by omega), e154, up_i (by omega)]
        have o0 : s155 163 (5 * k) = σ 163 (5 * k) := by rw [e155, up_i (by omega), e154, up_i (by omega)]
        rw [q2, q3, o0, o 1 (by decide) (by decide), o 2 (by decide) (by decide), o 3 (by decide) (by decide), o 4 (by decide) (by decide)]
        exact hk
    · rw [hv.1 163 (by decide), e155, up_if, e154, up_if]
      have := hR.r.b i0 i1
      split
      · omega
      · split
        · omega
        · exact this
  exact same_ne ⟨by omega, by omega⟩ rfl (h τ _ ⟨hrt, hst, hv.c6⟩)
theorem a_add {v k : Int} {s : Rw} {σ : St} {K : Int → St → Prop} (hR : REL σ s) (v0 : 0 ≤ v) (v1 : v < 10000000) (k0 : 0 ≤ k) (k1 : k < 4) (h : ∀ (τ : St) (t : Rw), REL τ t → K 1 τ) : ac_add v k σ K := by
  have hs := hR.s
  have hN := hs.n
  have e9 : σ 161 9 = s 9 := hR.r.g (by decide) (by decide)
  have mv := md (v := v / 9) (n := 100) (by decide)
  have me := md (v := v / 7) (n := 6) (by decide)
  have m2 := md (v := v) (n := 2) (by decide)
  have m7 := md (v := v) (n := 7) (by decide)
  unfold ac_add
  rw [e9]
  refine ⟨⟨by omega, by omega⟩, fun z => ?_, fun z => m_addNo (s := s) ⟨k0, by omega⟩ ⟨by decide, fun z => absurd rfl z, fun _ => h σ s hR⟩⟩
  intro x160 e160
  subst e160
  refine ⟨by omega, fun s161 e161 => ⟨⟨by omega, by omega⟩, ⟨by omega, by omega⟩, ?_⟩⟩
  refine wj1_intro (fun y => y = 40 ∨ y = 120) (fun w1 h1 => ?_) (fun J hJ => ⟨⟨by omega, by omega⟩, fun _ => hJ _ (Or.inl rfl), fun _ => hJ _ (Or.inr rfl)⟩)
  have mb := md (v := v / 4) (n := w1) (by omega)
  refine ⟨⟨by omega, by omega⟩, ⟨by omega, by omega⟩, by omega, fun s164 e164 => ⟨⟨by omega, by omega⟩, ⟨by omega, by omega⟩, ?_⟩⟩
  refine wj1_intro (fun y => y = 40 ∨ y = 120) (fun w2 h2 => ?_) (fun J hJ => ⟨⟨by omega, by omega⟩, fun _ => hJ _ (Or.inl rfl), fun _ => hJ _ (Or.inr rfl)⟩)
  have mc := md (v := v / 480) (n := w2) (by omega)
  refine ⟨⟨by omega, by omega⟩, ⟨by omega, by omega⟩, by omega, fun s167 e167 => ⟨⟨by omega, by omega⟩, ⟨by omega, by omega⟩, by omega, fun s168 e168 => ⟨⟨by omega, by omega⟩, ?_⟩⟩⟩
  refine wj1_intro (fun y => 0 ≤ y ∧ y < 6) (fun e he => ?_) (fun J hJ => ⟨⟨by omega, by omega⟩, fun _ => hJ _ (by decide), fun _ => ⟨⟨by omega, by omega⟩, ⟨by omega, by omega⟩, hJ _ me⟩⟩)
  generalize v / 4 % w1 = b at *
  generalize v / 480 % w2 = c at *
  generalize v / 9 % 100 = d at *
  refine ⟨by omega, fun s171 e171 s172 e172 => ⟨by omega, by omega, by omega, by omega, ?_⟩⟩
  have kc : ∀ c : Nat, c ≠ 161 → c ≠ 163 → s172 c = σ c := fun c h1 h2 => by rw [e172, up_c h1, e171, up_c h2, e168, up_c h2, e167, up_c h2, e164, up_c h2, e161, up_c h2]
  have k161 : s171 161 = σ 161 := by rw [e171, up_c (by decide), e168, up_c (by decide), e167, up_c (by decide), e164, up_c (by decide), e161, up_c (by decide)]
  have k9 : s172 161 9 = s 9 + 1 := by rw [e172, up_s, k161, e9]
  have ki : ∀ i : Int, s172 163 i = if i = 5 * s 9 + 4 then e else if i = 5 * s 9 + 3 then d else if i = 5 * s 9 + 2 then c else if i = 5 * s 9 + 1 then b else if i = 5 * s 9 then k else σ 163 i := fun i => by
    rw [e172, up_c (by decide), e171, up_if, e168, up_if, e167, up_if, e164, up_if, e161, up_if]
  have g0 : s172 163 (5 * s 9) = k := by rw [ki, if_neg (by omega), if_neg (by omega), if_neg (by omega), if_neg (by omega), if_pos rfl]
  have g1 : s172 163 (5 * s 9 + 1) = b := by rw [ki, if_neg (by omega), if_neg (by omega), if_neg (by omega), if_pos rfl]
  have g2 : s172 163 (5 * s 9 + 2) = c := by rw [ki, if_neg (by omega), if_neg (by omega), if_pos rfl]
  have g3 : s172 163 (5 * s 9 + 3) = d := by rw [ki, if_neg (by omega), if_pos rfl]
  have g4 : s172 163 (5 * s 9 + 4) = e := by rw [ki, if_pos rfl]
  rw [g1, g2, g3, g4]
  refine m_add hs.d (hR.2.2.go fun c hc => kc c (by omega) (by omega)) (by omega) (by omega) (by omega) (by omega) (by omega) he fun τ hv => ?_
  have hdt := hs.d.put (a := k) (b := b) (c := c) (d := d) (e := e) (by omega) (by omega) (by omega) (by omega) (by omega) (by omega)
  have lo : ∀ i : Int, i ≠ 9 → i < 111 + 5 * s 9 → putS s k b c d e i = s i := fun i h1 h2 => by
    unfold putS
    rw [if_neg h1, if_neg (by omega), if_neg (by omega), if_neg (by omega), if_neg (by omega), if_neg (by omega)]
  have t9 : putS s k b c d e 9 = s 9 + 1 := rfl
  have p0 : kd (putS s k b c d e) (s 9) = k := by unfold kd putS; rw [if_neg (by omega), if_pos rfl]
  have p1 : co (putS s k b c d e) (s 9) = b := by unfold co putS; rw [if_neg (by omega), if_neg (by omega), if_pos rfl]
  have p2 : ro (putS s k b c d e) (s 9) = c := by unfold ro putS; rw [if_neg (by omega), if_neg (by omega), if_neg (by omega), if_pos rfl]
  have p3 : va (putS s k b c d e) (s 9) = d := by unfold va putS; rw [if_neg (by omega), if_neg (by omega), if_neg (by omega), if_neg (by omega), if_pos rfl]
  have p4 : le' (putS s k b c d e) (s 9) = e := by unfold le' putS; rw [if_neg (by omega), if_neg (by omega), if_neg (by omega), if_neg (by omega), if_neg (by omega), if_pos rfl]
  generalize putS s k b c d e = t at *
  have hst : SL t := by
    refine ⟨hdt, by rw [t9]; omega, fun j j0 j1 => ?_, fun j j0 j1 => ?_, fun j j0 j1 => ?_⟩
    · have e1 : rk t j = rk s j := lo _ (by omega) (by omega)
      have e2 : gp t j = gp s j := lo _ (by omega) (by omega)
      have := hs.k j0 j1
      rw [e1, e2]; omega
    · have e1 : rk t j = rk s j := lo _ (by omega) (by omega)
      have e2 : gp t j = gp s j := lo _ (by omega) (by omega)
      rw [e1, e2]; exact hs.hi j0 j1
    · rw [t9] at j1
      by_cases z2 : j = s 9
      · rw [z2, p0]; omega
      · have e1 : kd t j = kd s j := lo _ (by omega) (by omega)
        rw [e1]; exact (hs.kd j0 (by omega)).2
  have hrt : RW τ t := by
    refine ⟨fun i i0 i1 => ?_, fun j j0 j1 => ?_, fun j j0 j1 => ?_, fun i i0 i1 => ?_⟩
    · rw [hv.1 161 (by decide)]
      by_cases z9 : i = 9
      · rw [z9, k9, t9]
      · rw [e172, up_i z9, k161, lo i z9 (by omega)]
        exact hR.r.g i0 i1
    · have e1 : rk t j = rk s j := lo _ (by omega) (by omega)
      have e2 : gp t j = gp s j := lo _ (by omega) (by omega)
      have e3 : nl t j = nl s j := lo _ (by omega) (by omega)
      have hD := hR.r.d j0 j1
      have hnl := (hs.d.kind j j0 (by omega)).2.2.1
      rw [hv.1 162 (by decide), kc 162 (by decide) (by decide), e1, e2, e3]
      refine ⟨hD.1, hD.2.1, hD.2.2.1, fun i i0 i1 => ?_⟩
      have e4 : lm t j i = lm s j i := lo _ (by omega) (by omega)
      rw [e4]; exact hD.2.2.2 i i0 i1
    · rw [t9] at j1
      rw [hv.1 163 (by decide)]
      by_cases z2 : j = s 9
      · rw [z2, p0, p1, p2, p3, p4]
        exact ⟨g0, g1, g2, g3, g4⟩
      · have hk := hR.r.e j0 (by omega)
        have q1 : kd t j = kd s j := lo _ (by omega) (by omega)
        have q2 : co t j = co s j := lo _ (by omega) (by omega)
        have q3 : ro t j = ro s j := lo _ (by omega) (by omega)
        have q4 : va t j = va s j := lo _ (by omega) (by omega)
        have q5 : le' t j = le' s j := lo _ (by omega) (by omega)
        have o : ∀ i : Int, i < 5 * s 9 → s172 163 i = σ 163 i := fun i hi => by rw [ki, if_neg (by omega), if_neg (by omega), if_neg (by omega), if_neg (by omega), if_neg (by omega)]
        rw [q1, q2, q3, q4, q5, o (5 * j) (by omega), o (5 * j + 1) (by omega), o (5 * j + 2) (by omega), o (5 * j + 3) (by omega), o (5 * j + 4) (by omega)]
        exact hk
    · rw [hv.1 163 (by decide), ki]
      have := hR.r.b i0 i1
      (repeat' split) <;> omega
  have r9 : τ 161 9 - 1 = s 9 := by rw [hv.1 161 (by decide), k9]; omega
  rw [r9]
  exact same_ne ⟨by omega, by omega⟩ rfl (h τ _ ⟨hrt, hst, hv.c6⟩)
/-! a limit set or taken -/
theorem lim_fin {k l q x71 : Int} {s : Rw} {σ τ : St} {K : Int → St → Prop} (hR : REL σ s) (k0 : 0 ≤ k) (k1 : k < 4) (hl : 1 ≤ l ∧ l ≤ 78) (hp : PLC s k l q) (h5 : hasL s k l = true ∨ nl s k < 5) (e71 : x71 = b01 (hasL s k l)) (tc : ∀ c : Nat, c ≠ 162 → τ c = σ c) (to : ∀ j : Int, j < 8 * k + 3 ∨ 8 * k + 7 < j → τ 162 j = σ 162 j) (tn : ∀ i : Int, 0 ≤ i → i < limN s k l → τ 162 (8 * k + 3 + i) = limL s k l q i) (h : ∀ (τ : St) (t : Rw), REL τ t → K 1 τ) :
    (0 ≤ (8 * k) + 2 ∧ (8 * k) + 2 < 32) ∧ (wj1 (fun x87 => (0 ≤ (8 * k) + 2 ∧ (8 * k) + 2 < 32) ∧ ∀ s88, s88 = up2 τ 162 ((8 * k) + 2) ((τ 162 ((8 * k) + 2)) + x87) → f_L_limits k l s88 (fun x89 s90 => (0 ≤ (8 * k) + 2 ∧ (8 * k) + 2 < 32) ∧ (Rg x89 ∧ Rg (s90 162 ((8 * k) + 2)) ∧ (x89 ≠ s90 162 ((8 * k) + 2) → K 0 s90) ∧ (¬ x89 ≠ s90 162 ((8 * k) + 2) → K 1 s90)))) (fun jj705 => (Rg x71 ∧ (x71 = 0 → jj705 1) ∧ (¬ x71 = 0 → jj705 (-1))))) := by
  have hs := hR.s
  refine ⟨by omega, wj1_intro (fun y => nl s k + y = limN s k l) (fun y hy => ⟨by omega, fun s88 e88 => ?_⟩) (fun J hJ => sp3 e71 (fun r => hJ _ ?_) (fun r => hJ _ ?_))⟩
  rotate_left
  · unfold limN; rw [if_neg (by rw [r]; decide)]
  · unfold limN; rw [if_pos r]; omega
  have hD := hR.r.d k0 k1
  have e0 : τ 162 (8 * k + 2) = nl s k := by rw [to _ (Or.inl (by omega))]; exact hD.2.2.1
  rw [e0, hy] at e88
  have hN := limN_bd hs.d k0 (by omega) hp h5
  refine m_limit hs.d (hR.2.2.go fun c hc => by rw [e88, up_c (by omega), tc c (by omega)]) k0 (by omega) (by omega) hp h5 fun ρ hv => ?_
  have hdt := hs.d.lim k0 (by omega) (by omega : 1 ≤ l ∧ l ≤ 9999) hp h5
  have et : ∀ i : Int, (i < 15 + 8 * k + 2 ∨ 15 + 8 * k + 7 < i) → limT s k l q i = s i := fun i hi => limT_o hN hi
  have en : nl (limT s k l q) k = limN s k l := limT_n
  have el : ∀ i : Int, 0 ≤ i → i < limN s k l → lm (limT s k l q) k i = limL s k l q i := fun i i0 i1 => limT_l i0 i1
  generalize limT s k l q = t at *
  have t9 := et 9 (by omega)
  have hst : SL t := by
    refine ⟨hdt, by rw [t9]; exact hs.n.2, fun j j0 j1 => ?_, fun j j0 j1 => ?_, fun j j0 j1 => ?_⟩
    · have e1 : rk t j = rk s j := et _ (by omega)
      have e2 : gp t j = gp s j := et _ (by omega)
      have := hs.k j0 j1
      rw [e1, e2]; omega
    · have e1 : rk t j = rk s j := et _ (by omega)
      have e2 : gp t j = gp s j := et _ (by omega)
      rw [e1, e2]; exact hs.hi j0 j1
    · have e1 : kd t j = kd s j := et _ (by omega)
      rw [e1]; exact (hs.kd j0 (by omega)).2
  have hrt : RW ρ t := by
    refine ⟨fun i i0 i1 => ?_, fun j j0 j1 => ?_, fun j j0 j1 => ?_, fun i i0 i1 => ?_⟩
    · rw [hv.1 161 (by decide), e88, up_c (by decide), tc 161 (by decide), et i (by omega)]
      exact hR.r.g i0 i1
    · have e1 : rk t j = rk s j := et _ (by omega)
      have e2 : gp t j = gp s j := et _ (by omega)
      have hJ := hR.r.d j0 j1
      rw [hv.1 162 (by decide), e1, e2]
      by_cases z : j = k
      · subst z
        rw [en]
        refine ⟨?_, ?_, by rw [e88, up_s], fun i i0 i1 => ?_⟩
        · rw [e88, up_i (by omega), to _ (Or.inl (by omega))]; exact hJ.1
        · rw [e88, up_i (by omega), to _ (Or.inl (by omega))]; exact hJ.2.1
        · rw [e88, up_i (by omega), el i i0 i1]; exact tn i i0 i1
      · have hnl := (hs.d.kind j j0 (by omega)).2.2.1
        have e3 : nl t j = nl s j := et _ (by omega)
        have o : ∀ i : Int, 0 ≤ i → i < 8 → s88 162 (8 * j + i) = σ 162 (8 * j + i) := fun i i0 i1 => by rw [e88, up_i (by omega), to _ (by omega)]
        have o0 : s88 162 (8 * j) = σ 162 (8 * j) := by rw [e88, up_i (by omega), to _ (by omega)]
        rw [e3, o0, o 1 (by decide) (by decide), o 2 (by decide) (by decide)]
        refine ⟨hJ.1, hJ.2.1, hJ.2.2.1, fun i i0 i1 => ?_⟩
        have e4 : lm t j i = lm s j i := et _ (by omega)
        rw [e4, Int.add_assoc, o (3 + i) (by omega) (by omega), ← Int.add_assoc]
        exact hJ.2.2.2 i i0 i1
    · rw [t9] at j1
      have q1 : kd t j = kd s j := et _ (by omega)
      have q2 : co t j = co s j := et _ (by omega)
      have q3 : ro t j = ro s j := et _ (by omega)
      have q4 : va t j = va s j := et _ (by omega)
      have q5 : le' t j = le' s j := et _ (by omega)
      rw [q1, q2, q3, q4, q5, hv.1 163 (by decide), e88, up_c (by decide), tc 163 (by decide)]
      exact hR.r.e j0 j1
    · rw [hv.1 163 (by decide), e88, up_c (by decide), tc 163 (by decide)]
      exact hR.r.b i0 i1
  have e90 : ρ 162 (8 * k + 2) = limN s k l := by rw [hv.1 162 (by decide), e88, up_s]
  rw [e90]
  exact ⟨by omega, same_ne ⟨by omega, by omega⟩ rfl (h ρ _ ⟨hrt, hst, hv.c6⟩)⟩
theorem a_lim {v k : Int} {s : Rw} {σ : St} {K : Int → St → Prop} (hR : REL σ s) (v0 : 0 ≤ v) (v1 : v < 10000000) (k0 : 0 ≤ k) (k1 : k < 4) (h : ∀ (τ : St) (t : Rw), REL τ t → K 1 τ) : ac_lim v k σ K := by
  have hs := hR.s
  have hk := hs.d.kind k k0 (by omega)
  have hnl := hk.2.2.1
  have hD := hR.r.d k0 k1
  have m8 := md (v := v / 4) (n := 8) (by decide)
  unfold ac_lim
  refine ⟨⟨by omega, by omega⟩, ⟨by omega, by omega⟩, fun l el a ea => ?_⟩
  subst ea
  have hl : 1 ≤ l ∧ l ≤ 78 := by omega
  clear el m8
  obtain ⟨q, hp⟩ := plc_ex (l := l) hs.d k0 (by omega : k < 12)
  have hq := hp.1
  have ph := plc_has hs.d k0 (by omega) hp
  have elm : ∀ i : Int, 0 ≤ i → i < nl s k → σ 162 (8 * k + 2 + 1 + i) = lm s k i := fun i i0 i1 => by rw [show 8 * k + 2 + 1 + i = 8 * k + 3 + i by omega]; exact hD.2.2.2 i i0 i1
  refine wl3_inv (fun x b i => (0 ≤ i ∧ i ≤ nl s k) ∧ (i ≤ q → x = i) ∧ (q ≤ i → x = q) ∧ b = b01 (decide (q < i ∧ lm s k q = l))) (fun _ _ i => (nl s k - i).toNat) ?_ ⟨by omega, fun _ => rfl, fun _ => by omega, by rw [decide_eq_false (by omega)]; rfl⟩
  rintro x b i ag ⟨hi, x1, x2, hb⟩ hag
  rw [hD.2.2.1]
  refine ⟨by omega, ⟨by omega, by omega⟩, ⟨by omega, by omega⟩, fun z => ?_, fun z => ⟨by omega, ?_⟩⟩
  · have ex : x = q := x2 (by omega)
    have eb : b = b01 (hasL s k l) := by
      rw [hb]
      congr 1
      by_cases w : q < i ∧ lm s k q = l
      · rw [decide_eq_true w, ph.mpr ⟨by omega, w.2⟩]
      · cases r : hasL s k l with
        | true => exact absurd (⟨by have := (ph.mp r).1; omega, (ph.mp r).2⟩) w
        | false => exact decide_eq_false w
    rw [ex]
    clear hag ag hb x1 x2 ex x
    refine wj0_intro (hasL s k l = true ∨ nl s k < 5) (fun h5 => ?_) (fun J hJ => sp4 eb (fun r => hJ (Or.inl r)) (fun r => ⟨by omega, ⟨by omega, by omega⟩, fun w => hJ (Or.inr (by omega)), fun w => m_limitNo hs.d hR.2.2 k0 (by omega) (by omega) r (by omega) ⟨by decide, fun w => absurd rfl w, fun _ => h σ s hR⟩⟩))
    cases r : hasL s k l with
    | true =>
      rw [r] at eb
      have hm := ph.mp r
      have hN : limN s k l = nl s k - 1 := by unfold limN; rw [if_pos r]
      refine wl1s_inv (fun i τ => (q ≤ i ∧ i ≤ 5) ∧ (∀ c : Nat, c ≠ 162 → τ c = σ c) ∧ ∀ j : Int, τ 162 j = if 8 * k + 3 + q ≤ j ∧ j < 8 * k + 3 + i then (if j = 8 * k + 7 then 0 else σ 162 (j + 1)) else σ 162 j) (fun i _ => (5 - i).toNat) ?_ ⟨by omega, fun _ _ => rfl, fun j => by rw [if_neg (by omega)]⟩
      rintro i2 τ ag2 ⟨hi2, tc, tj⟩ hag2
      refine wj0_intro (i2 = 5) (fun e5 => ?_) (fun J hJ => ⟨⟨by omega, by omega⟩, fun w => hJ (by omega), fun w => sp3 eb (fun u => absurd u (by decide)) (fun _ => ⟨⟨by omega, by omega⟩, fun y => ⟨by omega, fun s79 e79 => hag2 _ _ ⟨by omega, fun c hc => by rw [e79, up_c hc]; exact tc c hc, fun j => ?_⟩ (by omega)⟩, fun y => ⟨by omega, by omega, fun s80 e80 => hag2 _ _ ⟨by omega, fun c hc => by rw [e80, up_c hc]; exact tc c hc, fun j => ?_⟩ (by omega)⟩⟩)⟩)
      · subst e5
        refine wl1s_inv (fun i ρ => i = 4 ∧ ρ = τ) (fun _ _ => 0) ?_ ⟨rfl, rfl⟩
        rintro i3 ρ ag3 ⟨e1, e2⟩ -
        rw [e1, e2]
        refine wj0_intro True (fun _ => lim_fin hR k0 k1 hl hp h5 (by rw [eb, r]) tc (fun j hj => ?_) (fun i i0 i1 => ?_) h) (fun J hJ => ⟨⟨by decide, by decide⟩, ⟨by omega, by omega⟩, fun _ => hJ trivial, fun _ => sp4 eb (fun _ => hJ trivial) (fun u => absurd u (by decide))⟩)
        · rw [tj j, if_neg (by omega)]
        · rw [tj]
          unfold limL
          rw [if_pos r]
          by_cases w : i < q
          · rw [if_pos w, if_neg (by omega)]; exact hD.2.2.2 i i0 (by omega)
          · rw [if_neg w, if_pos (show 8 * k + 3 + q ≤ 8 * k + 3 + i ∧ 8 * k + 3 + i < 8 * k + 3 + 5 by omega), if_neg (by omega), show 8 * k + 3 + i + 1 = 8 * k + 3 + (i + 1) by omega]
            exact hD.2.2.2 (i + 1) (by omega) (by omega)
      · rw [e79, up_if]
        by_cases w2 : j = 8 * k + 2 + 1 + i2
        · rw [if_pos w2, if_pos (show 8 * k + 3 + q ≤ j ∧ j < 8 * k + 3 + (i2 + 1) by omega), if_pos (by omega)]
        · rw [if_neg w2, tj j]
          by_cases w3 : 8 * k + 3 + q ≤ j ∧ j < 8 * k + 3 + i2
          · rw [if_pos w3, if_pos (show 8 * k + 3 + q ≤ j ∧ j < 8 * k + 3 + (i2 + 1) by omega)]
          · rw [if_neg w3, if_neg (by omega)]
      · have e1 : τ 162 (8 * k + 2 + 2 + i2) = σ 162 (8 * k + 2 + 2 + i2) := by rw [tj, if_neg (by omega)]
        rw [e80, up_if, e1]
        by_cases w2 : j = 8 * k + 2 + 1 + i2
        · rw [if_pos w2, if_pos (show 8 * k + 3 + q ≤ j ∧ j < 8 * k + 3 + (i2 + 1) by omega), if_neg (by omega), show j + 1 = 8 * k + 2 + 2 + i2 by omega]
        · rw [if_neg w2, tj j]
          by_cases w3 : 8 * k + 3 + q ≤ j ∧ j < 8 * k + 3 + i2
          · rw [if_pos w3, if_pos (show 8 * k + 3 + q ≤ j ∧ j < 8 * k + 3 + (i2 + 1) by omega)]
          · rw [if_neg w3, if_neg (by omega)]
    | false =>
      rw [r] at eb
      have h5' : nl s k < 5 := h5.elim (fun z => by rw [r] at z; exact absurd z (by decide)) id
      have hno : ¬ hasL s k l = true := by rw [r]; decide
      have hN : limN s k l = nl s k + 1 := by unfold limN; rw [if_neg hno]
      refine wl1s_inv (fun i τ => i = q ∧ τ = σ) (fun _ _ => 0) ?_ ⟨rfl, rfl⟩
      rintro i2 τ ag2 ⟨e1, e2⟩ -
      rw [e1, e2]
      refine wj0_intro True (fun _ => ?_) (fun J hJ => ⟨⟨by omega, by omega⟩, fun _ => hJ trivial, fun _ => sp3 eb (fun _ => hJ trivial) (fun u => absurd u (by decide))⟩)
      refine wl1s_inv (fun i τ => (q - 1 ≤ i ∧ i ≤ 4) ∧ (∀ c : Nat, c ≠ 162 → τ c = σ c) ∧ ∀ j : Int, τ 162 j = if 8 * k + 3 + i < j ∧ j ≤ 8 * k + 7 then (if j = 8 * k + 3 + q then l else σ 162 (j - 1)) else σ 162 j) (fun i _ => (i + 1).toNat) ?_ ⟨by omega, fun _ _ => rfl, fun j => by rw [if_neg (by omega)]⟩
      rintro i3 ρ ag3 ⟨hi3, tc, tj⟩ hag3
      refine wj0_intro (i3 = q - 1) (fun e5 => lim_fin hR k0 k1 hl hp h5 (by rw [eb, r]) tc (fun j hj => by rw [tj, if_neg (by omega)]) (fun i i0 i1 => ?_) h) (fun J hJ => ⟨⟨by omega, by omega⟩, ⟨by omega, by omega⟩, fun w => hJ (by omega), fun w => sp4 eb (fun u => absurd u (by decide)) (fun _ => ⟨⟨by omega, by omega⟩, ⟨by omega, by omega⟩, fun y => ⟨by omega, by omega, fun s84 e84 => hag3 _ _ ⟨by omega, fun c hc => by rw [e84, up_c hc]; exact tc c hc, fun j => ?_⟩ (by omega)⟩, fun y => ⟨by omega, fun s85 e85 => hag3 _ _ ⟨by omega, fun c hc => by rw [e85, up_c hc]; exact tc c hc, fun j => ?_⟩ (by omega)⟩⟩)⟩)
      · rw [tj]
        unfold limL
        rw [if_neg hno]
        by_cases w : i < q
        · rw [if_pos w, if_neg (by omega)]; exact hD.2.2.2 i i0 (by omega)
        · rw [if_neg w, if_pos (show 8 * k + 3 + i3 < 8 * k + 3 + i ∧ 8 * k + 3 + i ≤ 8 * k + 7 by omega)]
          by_cases w2 : i = q
          · rw [if_pos w2, if_pos (by omega)]
          · rw [if_neg w2, if_neg (by omega), show 8 * k + 3 + i - 1 = 8 * k + 3 + (i - 1) by omega]
            exact hD.2.2.2 (i - 1) (by omega) (by omega)
      · have e1 : ρ 162 (8 * k + 2 + i3) = σ 162 (8 * k + 2 + i3) := by rw [tj, if_neg (by omega)]
        rw [e84, up_if, e1]
        by_cases w2 : j = 8 * k + 2 + 1 + i3
        · rw [if_pos w2, if_pos (show 8 * k + 3 + (i3 + -1) < j ∧ j ≤ 8 * k + 7 by omega), if_neg (by omega), show j - 1 = 8 * k + 2 + i3 by omega]
        · rw [if_neg w2, tj j]
          by_cases w3 : 8 * k + 3 + i3 < j ∧ j ≤ 8 * k + 7
          · rw [if_pos w3, if_pos (show 8 * k + 3 + (i3 + -1) < j ∧ j ≤ 8 * k + 7 by omega)]
          · rw [if_neg w3, if_neg (show ¬ (8 * k + 3 + (i3 + -1) < j ∧ j ≤ 8 * k + 7) by omega)]
      · rw [e85, up_if]
        by_cases w2 : j = 8 * k + 2 + 1 + i3
        · rw [if_pos w2, if_pos (show 8 * k + 3 + (i3 + -1) < j ∧ j ≤ 8 * k + 7 by omega), if_pos (by omega)]
        · rw [if_neg w2, tj j]
          by_cases w3 : 8 * k + 3 + i3 < j ∧ j ≤ 8 * k + 7
          · rw [if_pos w3, if_pos (show 8 * k + 3 + (i3 + -1) < j ∧ j ≤ 8 * k + 7 by omega)]
          · rw [if_neg w3, if_neg (show ¬ (8 * k + 3 + (i3 + -1) < j ∧ j ≤ 8 * k + 7) by omega)]
  · rw [elm i hi.1 (by omega)]
    have hlm := hk.2.2.2.1 i hi.1 (by omega)
    have qi : i < q ↔ lm s k i < l := ⟨fun w => hp.2.1 i hi.1 w, fun w => Classical.byContradiction fun y => by
      have a1 := hp.2.2 (by omega)
      have a2 := lm_le hs.d k0 (by omega) hq.1 (by omega : q ≤ i) (by omega)
      omega⟩
    refine wj1_intro (fun y => y = if i < q then 1 else 0) (fun y hy x93 e93 => ?_) (fun J hJ => ⟨⟨by omega, by omega⟩, ⟨by omega, by omega⟩, fun w => hJ _ (by rw [if_neg (by omega)]), fun w => hJ _ (by rw [if_pos (by omega)])⟩)
    have nxt : ∀ c : Int, c = b01 (decide (q < i + 1 ∧ lm s k q = l)) → ag x93 c (i + 1) := fun c hc => by
      by_cases w : i < q
      · rw [if_pos w] at hy
        have := x1 (by omega)
        exact hag _ _ _ ⟨by omega, fun _ => by omega, fun _ => by omega, hc⟩ (by omega)
      · rw [if_neg w] at hy
        have := x2 (by omega)
        exact hag _ _ _ ⟨by omega, fun _ => by omega, fun _ => by omega, hc⟩ (by omega)
    refine sp4 hb (fun u => nxt 1 ?_) (fun u => ⟨by omega, ⟨by omega, by omega⟩, ⟨by omega, by omega⟩, fun w => nxt 0 ?_, fun w => nxt 1 ?_⟩)
    · have u := of_decide_eq_true u
      rw [decide_eq_true (show q < i + 1 ∧ lm s k q = l from ⟨by omega, u.2⟩)]; rfl
    · have u := of_decide_eq_false u
      rw [decide_eq_false (show ¬ (q < i + 1 ∧ lm s k q = l) from fun y => ?_)]
      · rfl
      · by_cases w2 : q = i
        · rw [w2] at y; exact w y.2
        · exact u ⟨by omega, y.2⟩
    · have w := Decidable.not_not.mp w
      have w2 : q = i := Classical.byContradiction fun y => by
        by_cases w3 : q < i
        · have a1 := hp.2.2 (by omega)
          have a2 := lm_lt hs.d k0 (by omega) hq.1 w3 (by omega)
          omega
        · have := qi.mp (by omega)
          omega
      rw [decide_eq_true (show q < i + 1 ∧ lm s k q = l from ⟨by omega, by rw [w2]; exact w⟩)]; rfl
