/-! ===== the class's changes ===== -/
/-- the class has saved its state and stands for the row t now -/
def HV (σ τ : St) (t : Rw) : Prop := (∀ c : Nat, 161 ≤ c → τ c = σ c) ∧ τ 14 0 = 0 ∧ (∃ (p : Int) (P : Int → Rw), RI τ p P) ∧ (0 ≤ τ 24 0 ∧ τ 24 0 ≤ 77) ∧ Ms τ 1 t
theorem HV.c6 {σ τ : St} {t : Rw} (h : HV σ τ t) : C6 τ t := ⟨h.2.2.2.2, h.2.2.1, Or.inl h.2.1, h.2.2.2.1⟩
theorem HV.ms {σ τ ρ : St} {s t : Rw} (h : HV σ τ s) (e : ∀ c : Nat, (c < 1 ∨ 13 < c) → ρ c = τ c) (m : Ms ρ 1 t) : HV σ ρ t := by
  obtain ⟨h1, h2, ⟨p, P, h3⟩, h4, _⟩ := h
  exact ⟨fun c hc => by rw [e c (by omega)]; exact h1 c hc, by rw [e 14 (by decide)]; exact h2, ⟨p, P, h3.go (by rw [e 0 (by decide)]) (by rw [e 0 (by decide)]) (fun c _ _ => e c (by omega))⟩, by rw [e 24 (by decide)]; exact h4, m⟩
theorem q_sv {s : Rw} {σ : St} {K : St → Prop} (hd : Dm s) (hC : C6 σ s) (h : ∀ τ : St, HV σ τ s → K τ) : f_X6_saveState σ K := by
  obtain ⟨hm, ⟨p, P, hri⟩, _, h24⟩ := hC
  refine s6_saveState hd hm hri fun τ c1 f1 z1 r1 => h τ ⟨fun c hc => c1 c (by omega) (by omega) (by omega), z1, ⟨_, _, r1⟩, ?_, hm.go fun c g1 g2 => c1 c (by omega) (by omega) (by omega)⟩
  rw [c1 24 (by decide) (by decide) (by decide)]
  exact h24
theorem m_add {a b c d e : Int} {s : Rw} {σ : St} {K : Int → St → Prop} (hd : Dm s) (hC : C6 σ s) (h40 : s 9 < 40) (ha : 0 ≤ a ∧ a < 12) (hb : 0 ≤ b ∧ b < 200) (hc : 0 ≤ c ∧ c < 200) (hdd : 0 ≤ d ∧ d < 10000) (he : 0 ≤ e ∧ e < 6) (h : ∀ τ : St, HV σ τ (putS s a b c d e) → K (s 9) τ) : f_L_adds a b c d e σ K := by
  have hn := hd.n
  have e15 : σ 1 5 = s 9 := hC.1.n
  unfold f_L_adds f_X6_addSign
  refine s6_demandKind ⟨by omega, by omega⟩ (fun _ => s6_demandBelow ⟨by omega, by omega⟩ ⟨by decide, by decide⟩ (fun _ => s6_demandBelow ⟨by omega, by omega⟩ ⟨by decide, by decide⟩ (fun _ => s6_demandBelow ⟨by omega, by omega⟩ ⟨by decide, by decide⟩ (fun _ => s6_demandBelow ⟨by omega, by omega⟩ ⟨by decide, by decide⟩ (fun _ => ?_) (fun q => absurd he q)) (fun q => absurd hdd q)) (fun q => absurd hc q)) (fun q => absurd hb q)) (fun q => absurd ha q)
  rw [e15]
  refine ⟨⟨by omega, by omega⟩, fun _ => q_sv hd hC fun τ hv => ?_, fun z => absurd h40 z⟩
  refine s3_putSign hv.2.2.2.2.sg hn.1 h40 fun σ2 ps g2 => ?_
  have M2 : Ms σ2 1 (putS s a b c d e) := g2.ms hd hv.2.2.2.2 (fun c z1 z2 => ps.1 c (by omega)) (fun i i0 i1 i9 => putS_lo hn.1 i1 i9)
  have e5 : σ2 1 5 = s 9 + 1 := M2.n
  rw [e5, show s 9 + 1 - 1 = s 9 by omega]
  exact h σ2 (hv.ms (fun c z => ps.1 c (by omega)) M2)
theorem m_addNo {a c d e : Int} {s : Rw} {σ : St} {K : Int → St → Prop} (ha : 0 ≤ a ∧ a < 12) (h : K (-100002) σ) : f_L_adds a 200 c d e σ K := by
  unfold f_L_adds f_X6_addSign
  exact s6_demandKind ⟨by omega, by omega⟩ (fun _ => s6_demandBelow ⟨by decide, by decide⟩ ⟨by decide, by decide⟩ (fun q => absurd q (by decide)) (fun _ => ⟨fun t => absurd t (by decide), fun _ => h, fun t => absurd t (by decide), Or.inr (Or.inl rfl)⟩)) (fun q => absurd ha q)
theorem m_drop {a : Int} {s : Rw} {σ : St} {K : Int → St → Prop} (hd : Dm s) (hC : C6 σ s) (ha : 0 ≤ a ∧ a < s 9) (h : ∀ τ : St, HV σ τ (dropS s a) → K (s 9 - 1) τ) : f_L_drops a σ K := by
  have hn := hd.n
  unfold f_L_drops f_X6_removeSign
  refine s6_demandSign hd hC.1 ⟨by omega, by omega⟩ (fun _ => q_sv hd hC fun τ hv => ?_) (fun q => absurd ha q)
  refine s3_dropSign hv.2.2.2.2.sg hn.2 ha.1 ha.2 fun σ2 ps g2 => ?_
  have M2 : Ms σ2 1 (dropS s a) := g2.ms hd hv.2.2.2.2 (fun c z1 z2 => ps.1 c (by omega)) (fun i i0 i1 i9 => dropS_lo ha.1 i i9 i1)
  have e5 : σ2 1 5 = s 9 - 1 := M2.n
  rw [e5]
  exact h σ2 (hv.ms (fun c z => ps.1 c (by omega)) M2)
theorem m_dropNo {a : Int} {s : Rw} {σ : St} {K : Int → St → Prop} (hd : Dm s) (hC : C6 σ s) (ha : a = s 9) (h : K (-100001) σ) : f_L_drops a σ K := by
  have hn := hd.n
  unfold f_L_drops f_X6_removeSign
  exact s6_demandSign hd hC.1 ⟨by omega, by omega⟩ (fun q => by omega) (fun _ => ⟨fun _ => h, rfl⟩)
theorem m_move {a b c : Int} {s : Rw} {σ : St} {K : Int → St → Prop} (hd : Dm s) (hC : C6 σ s) (ha : 0 ≤ a ∧ a < s 9) (hb : 0 ≤ b ∧ b < 200) (hc : 0 ≤ c ∧ c < 200) (h : ∀ τ : St, HV σ τ (setF (setF s (111 + 5 * a + 1) b) (111 + 5 * a + 2) c) → K (co s a) τ) : f_L_moves a b c σ K := by
  have hn := hd.n
  unfold f_L_moves f_X6_moveSign
  refine s6_demandSign hd hC.1 ⟨by omega, by omega⟩ (fun _ => s6_demandBelow ⟨by omega, by omega⟩ ⟨by decide, by decide⟩ (fun _ => s6_demandBelow ⟨by omega, by omega⟩ ⟨by decide, by decide⟩ (fun _ => q_sv hd hC fun τ hv => ?_) (fun q => absurd hc q)) (fun q => absurd hb q)) (fun q => absurd ha q)
  have ms := hv.2.2.2.2.sign a ha.1 ha.2
  refine ⟨by omega, ?_⟩
  intro x2 e2
  have e2 : x2 = co s a := e2.trans ms.2.1
  subst e2
  refine ⟨by omega, ?_⟩
  intro s3 e3
  refine ⟨by omega, ?_⟩
  intro s4 e4
  have M4 : Ms s4 1 (setF (setF s (111 + 5 * a + 1) b) (111 + 5 * a + 2) c) := by rw [e4, e3]; exact hv.2.2.2.2.mv hd ha
  exact h s4 (hv.ms (fun c z => by rw [e4, up_c (by omega), e3, up_c (by omega)]) M4)
theorem m_moveNo {b c : Int} {s : Rw} {σ : St} {K : Int → St → Prop} (hd : Dm s) (hC : C6 σ s) (h0 : s 9 = 0) (h : K (-100001) σ) : f_L_moves 0 b c σ K := by
  unfold f_L_moves f_X6_moveSign
  exact s6_demandSign hd hC.1 ⟨by decide, by decide⟩ (fun q => by omega) (fun _ => ⟨fun _ => h, fun t => absurd t (by decide), Or.inl rfl⟩)
def winS (s : Rw) (a b c d e : Int) : Rw := setF (setF (setF (setF (setF s 4 a) 5 b) 6 c) 7 d) 8 e
theorem Dm.win5 {s : Rw} (hd : Dm s) {a b c d e : Int} (ha : 0 ≤ a ∧ a < 200) (hb : 0 ≤ b ∧ b < 200) (hc : 10 ≤ c ∧ c ≤ 200) (hdd : 10 ≤ d ∧ d ≤ 200) (he : 0 ≤ e ∧ e < 6) : (Dm (setF s 4 a) ∧ Dm (setF (setF s 4 a) 5 b) ∧ Dm (setF (setF (setF s 4 a) 5 b) 6 c) ∧ Dm (setF (setF (setF (setF s 4 a) 5 b) 6 c) 7 d)) ∧ Dm (winS s a b c d e) := by
  have d1 : Dm (setF s 4 a) := hd.low (by decide) (fun z => absurd z (by decide)) (fun z => absurd z (by decide)) (fun z => absurd z (by decide)) (fun z => absurd z (by decide)) (fun _ => by omega) (fun z => absurd z (by decide)) (fun z => absurd z (by decide))
  have d2 : Dm (setF (setF s 4 a) 5 b) := d1.low (by decide) (fun z => absurd z (by decide)) (fun z => absurd z (by decide)) (fun z => absurd z (by decide)) (fun z => absurd z (by decide)) (fun _ => by omega) (fun z => absurd z (by decide)) (fun z => absurd z (by decide))
  have d3 : Dm (setF (setF (setF s 4 a) 5 b) 6 c) := d2.low (by decide) (fun z => absurd z (by decide)) (fun z => absurd z (by decide)) (fun z => absurd z (by decide)) (fun z => absurd z (by decide)) (fun z => absurd z (by decide)) (fun _ => by omega) (fun z => absurd z (by decide))
  have d4 : Dm (setF (setF (setF (setF s 4 a) 5 b) 6 c) 7 d) := d3.low (by decide) (fun z => absurd z (by decide)) (fun z => absurd z (by decide)) (fun z => absurd z (by decide)) (fun z => absurd z (by decide)) (fun z => absurd z (by decide)) (fun _ => by omega) (fun z => absurd z (by decide))
  have d5 : Dm (setF (setF (setF (setF (setF s 4 a) 5 b) 6 c) 7 d) 8 e) := d4.low (by decide) (fun z => absurd z (by decide)) (fun z => absurd z (by decide)) (fun z => absurd z (by decide)) (fun z => absurd z (by decide)) (fun z => absurd z (by decide)) (fun z => absurd z (by decide)) (fun _ => by omega)
  exact ⟨⟨d1, d2, d3, d4⟩, d5⟩
theorem m_window {a b c d e : Int} {s : Rw} {σ : St} {K : Int → St → Prop} (hd : Dm s) (hC : C6 σ s) (ha : 0 ≤ a ∧ a < 200) (hb : 0 ≤ b ∧ b < 200) (hc : 10 ≤ c ∧ c ≤ 200) (hdd : 10 ≤ d ∧ d ≤ 200) (he : 0 ≤ e ∧ e < 6) (h : ∀ τ : St, HV σ τ (winS s a b c d e) → K (cI (sh' (winS s a b c d e)) (winS s a b c d e 9)) τ) : f_L_windows a b c d e σ K := by
  obtain ⟨⟨d1, d2, d3, d4⟩, d5⟩ := hd.win5 ha hb hc hdd he
  unfold f_L_windows f_X6_setWindow
  refine s6_demandBelow ⟨by omega, by omega⟩ ⟨by decide, by decide⟩ (fun _ => s6_demandBelow ⟨by omega, by omega⟩ ⟨by decide, by decide⟩ (fun _ => s6_demandSpan ⟨by omega, by omega⟩ (fun _ => s6_demandSpan ⟨by omega, by omega⟩ (fun _ => s6_demandBelow ⟨by omega, by omega⟩ ⟨by decide, by decide⟩ (fun _ => q_sv hd hC fun τ hv => ?_) (fun q => absurd he q)) (fun q => absurd hdd q)) (fun q => absurd hc q)) (fun q => absurd hb q)) (fun q => absurd ha q)
  intro s2 e2 s3 e3 s4 e4 s5 e5 s6 e6
  have M2 : Ms s2 1 (setF s 4 a) := by rw [e2]; exact hv.2.2.2.2.setW hd (j := 0) (by decide)
  have M3 : Ms s3 1 (setF (setF s 4 a) 5 b) := by rw [e3]; exact M2.setW d1 (j := 1) (by decide)
  have M4 : Ms s4 1 (setF (setF (setF s 4 a) 5 b) 6 c) := by rw [e4]; exact M3.setW d2 (j := 2) (by decide)
  have M5 : Ms s5 1 (setF (setF (setF (setF s 4 a) 5 b) 6 c) 7 d) := by rw [e5]; exact M4.setW d3 (j := 3) (by decide)
  have M6 : Ms s6 1 (winS s a b c d e) := by rw [e6]; exact M5.setW d4 (j := 4) (by decide)
  refine s3_countShown d5 M6 (h s6 (hv.ms (fun c z => by rw [e6, up_c (by omega), e5, up_c (by omega), e4, up_c (by omega), e3, up_c (by omega), e2, up_c (by omega)]) M6))
theorem Dm.set1 {s : Rw} (hd : Dm s) {a b : Int} (ha : 0 ≤ a ∧ a < 4) (hb : 1 ≤ b ∧ b ≤ hsetI a) : Dm (setF s a b) := by
  unfold hsetI at hb
  refine hd.low (by omega) (fun e => ?_) (fun e => ?_) (fun e => ?_) (fun e => ?_) (fun e => by omega) (fun e => by omega) (fun e => by omega)
  · rw [if_pos e] at hb; omega
  · rw [if_neg (by omega), if_pos e] at hb; omega
  · rw [if_neg (by omega), if_neg (by omega), if_pos e] at hb; omega
  · rw [if_neg (by omega), if_neg (by omega), if_neg (by omega)] at hb; omega
theorem m_set {a b : Int} {s : Rw} {σ : St} {K : Int → St → Prop} (hd : Dm s) (hC : C6 σ s) (ha : 0 ≤ a ∧ a < 4) (hb : 1 ≤ b ∧ b ≤ hsetI a) (h : ∀ τ : St, HV σ τ (setF s a b) → K (s a) τ) : f_L_sets a b σ K := by
  have hh : 1 ≤ hsetI a ∧ hsetI a ≤ 60 := by unfold hsetI; (repeat' split) <;> omega
  unfold f_L_sets f_X6_set
  refine s6_demandBelow ⟨by omega, by omega⟩ ⟨by decide, by decide⟩ (fun _ => ⟨⟨by omega, by omega⟩, fun z => by omega, fun _ => ⟨ha, ⟨by omega, by omega⟩, ⟨by omega, by omega⟩, fun _ => q_sv hd hC fun τ hv => ⟨ha, ?_⟩, fun z => by omega⟩⟩) (fun q => absurd ha q)
  intro x2 e2
  have e2 : x2 = s a := e2.trans (hv.2.2.2.2.set a ha.1 ha.2)
  subst e2
  refine ⟨ha, ?_⟩
  intro s3 e3
  have M3 : Ms s3 1 (setF s a b) := by rw [e3]; exact hv.2.2.2.2.setS hd ha
  exact h s3 (hv.ms (fun c z => by rw [e3, up_c (by omega)]) M3)
theorem m_kind {a b c : Int} {s : Rw} {σ : St} {K : Int → St → Prop} (hd : Dm s) (hC : C6 σ s) (ha : 0 ≤ a ∧ a < 12) (hb : 0 ≤ b ∧ b < 100) (hc : -1 ≤ c ∧ c ≤ 4) (h : ∀ τ : St, HV σ τ (setF (setF s (15 + 8 * a) b) (15 + 8 * a + 1) c) → K (rk s a) τ) : f_L_kinds a b c σ K := by
  unfold f_L_kinds f_X6_setKind
  refine s6_demandKind ⟨by omega, by omega⟩ (fun _ => s6_demandBelow ⟨by omega, by omega⟩ ⟨by decide, by decide⟩ (fun _ => ?_) (fun q => absurd hb q)) (fun q => absurd ha q)
  refine wj0_intro True (fun _ => q_sv hd hC fun τ hv => ⟨ha, ?_⟩) (fun J0 h0 => ⟨⟨by omega, by omega⟩, fun z => h0 trivial, fun z => s6_demandBelow ⟨by omega, by omega⟩ ⟨by decide, by decide⟩ (fun q => h0 trivial) (fun q => by omega)⟩)
  intro x3 e3
  have e3 : x3 = rk s a := e3.trans (hv.2.2.2.2.kind a ha.1 ha.2).1
  subst e3
  refine ⟨ha, ?_⟩
  intro s4 e4
  refine ⟨ha, ?_⟩
  intro s5 e5
  have M5 : Ms s5 1 (setF (setF s (15 + 8 * a) b) (15 + 8 * a + 1) c) := by rw [e5, e4]; exact hv.2.2.2.2.kg hd ha
  exact h s5 (hv.ms (fun c z => by rw [e5, up_c (by omega), e4, up_c (by omega)]) M5)
theorem m_way {a b : Int} {s : Rw} {σ : St} {K : Int → St → Prop} (hd : Dm s) (hC : C6 σ s) (ha : 0 ≤ a ∧ a < 5) (hb : 0 ≤ b ∧ b < 2) (h : ∀ τ : St, HV σ τ (setF s (10 + a) b) → K (s (10 + a)) τ) : f_L_ways a b σ K := by
  unfold f_L_ways f_X6_setWay
  refine ⟨⟨by omega, by omega⟩, fun z => by omega, fun _ => ⟨⟨by omega, by omega⟩, fun _ => s6_demandBelow ⟨by omega, by omega⟩ ⟨by decide, by decide⟩ (fun _ => q_sv hd hC fun τ hv => ⟨ha, ?_⟩) (fun q => absurd hb q), fun z => by omega⟩⟩
  intro x3 e3
  have e3 : x3 = s (10 + a) := e3.trans (hv.2.2.2.2.way a ha.1 ha.2)
  subst e3
  refine ⟨ha, ?_⟩
  intro s4 e4
  have M5 : Ms s4 1 (setF s (10 + a) b) := by rw [e4]; exact hv.2.2.2.2.wy hd ha
  exact h s4 (hv.ms (fun c z => by rw [e4, up_c (by omega)]) M5)
theorem m_limit {k l q : Int} {s : Rw} {σ : St} {K : Int → St → Prop} (hd : Dm s) (hC : C6 σ s) (k0 : 0 ≤ k) (k1 : k < 12) (hl : 1 ≤ l ∧ l ≤ 9999) (hp : PLC s k l q) (h5 : hasL s k l = true ∨ nl s k < 5) (h : ∀ τ : St, HV σ τ (limT s k l q) → K (limN s k l) τ) : f_L_limits k l σ K := by
  have hk := hd.kind k k0 k1
  have e9 : σ 9 k = nl s k := (hC.1.kind k k0 k1).2.2.1
  unfold f_L_limits f_X6_limit
  refine s6_demandKind ⟨by omega, by omega⟩ (fun _ => ⟨⟨by omega, by omega⟩, fun z => by omega, fun _ => ⟨⟨by omega, by omega⟩, fun _ => s3_hasLimit hd hC.1 k0 k1 ⟨by omega, by omega⟩ ?_, fun z => by omega⟩⟩) (fun z => absurd ⟨k0, k1⟩ z)
  rw [e9]
  refine wj0_intro True (fun _ => q_sv hd hC fun τ hv => b01_split (fun r => ?_) (fun r => ?_)) (fun J0 h0 => b01_tilps (fun r => h0 trivial) (fun r => ⟨⟨k0, k1⟩, ⟨by omega, by omega⟩, fun _ => h0 trivial, fun z => ?_⟩))
  · have h5n : nl s k < 5 := h5.elim (fun z => by rw [r] at z; exact absurd z (by decide)) id
    refine s3_putLimit hd hv.2.2.2.2 k0 k1 ⟨by omega, by omega⟩ hp r h5n fun σ' c1 m1 => ⟨⟨k0, k1⟩, ?_⟩
    have e : σ' 9 k = limN s k l := (m1.kind k k0 k1).2.2.1.trans limT_n
    rw [e]
    exact h σ' (hv.ms (fun c z => c1 c (by omega) (by omega)) m1)
  · refine s3_dropLimit hd hv.2.2.2.2 k0 k1 ⟨by omega, by omega⟩ hp r fun σ' c1 m1 => ⟨⟨k0, k1⟩, ?_⟩
    have e : σ' 9 k = limN s k l := (m1.kind k k0 k1).2.2.1.trans limT_n
    rw [e]
    exact h σ' (hv.ms (fun c z => c1 c (by omega) (by omega)) m1)
  · rcases h5 with z2 | z2
    · rw [r] at z2; exact absurd z2 (by decide)
    · exact absurd z2 z
theorem m_limitNo {k l : Int} {s : Rw} {σ : St} {K : Int → St → Prop} (hd : Dm s) (hC : C6 σ s) (k0 : 0 ≤ k) (k1 : k < 12) (hl : 1 ≤ l ∧ l ≤ 9999) (hno : hasL s k l = false) (h5 : nl s k = 5) (h : K (-100003) σ) : f_L_limits k l σ K := by
  have e9 : σ 9 k = nl s k := (hC.1.kind k k0 k1).2.2.1
  unfold f_L_limits f_X6_limit
  refine s6_demandKind ⟨by omega, by omega⟩ (fun _ => ⟨⟨by omega, by omega⟩, fun z => by omega, fun _ => ⟨⟨by omega, by omega⟩, fun _ => s3_hasLimit hd hC.1 k0 k1 ⟨by omega, by omega⟩ ?_, fun z => by omega⟩⟩) (fun z => absurd ⟨k0, k1⟩ z)
  rw [e9, h5]
  refine wj0_intro False (fun z => z.elim) (fun J0 h0 => b01_tilps (fun r => by rw [hno] at r; exact absurd r (by decide)) (fun r => ⟨⟨k0, k1⟩, ⟨by decide, by decide⟩, fun z => absurd z (by decide), fun z => ⟨fun t => absurd t (by decide), fun t => absurd t (by decide), fun _ => h, Or.inr (Or.inr rfl)⟩⟩))
