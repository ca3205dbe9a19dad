/-! ===== the hash ===== -/
def hsh (f : Fn) : Nat → Int → Int
  | 0, a => a
  | n + 1, a => 31 * hsh f n a + f n
def hsI (f : Fn) (i a : Int) : Int := hsh f i.toNat a
theorem hsI_S {f : Fn} {i a : Int} (h : 0 ≤ i) : hsI f (i + 1) a = 31 * hsI f i a + f i := by
  have e : (i + 1).toNat = i.toNat + 1 := by omega
  have e2 : ((i.toNat : Nat) : Int) = i := by omega
  unfold hsI
  rw [e]
  show 31 * hsh f i.toNat a + f (i.toNat : Nat) = _
  rw [e2]
theorem hash_loop {F : Int → Int → (Int → Int → Prop) → Prop} (f : Fn) (n : Int) (h0 : 0 ≤ n) (a : Int) (hs : ∀ (x i : Int) (ag : Int → Int → Prop), x = hsI f i a → 0 ≤ i → i < n → ag (31 * x + f i) (i + 1) → F x i ag) (he : ∀ (x : Int) (ag : Int → Int → Prop), x = hsI f n a → F x n ag) : ∃ m, wl2 F m a 0 := by
  refine wl2_inv (fun x i => (0 ≤ i ∧ i ≤ n) ∧ x = hsI f i a) (fun _ i => (n - i).toNat) ?_ ⟨by omega, rfl⟩
  rintro x i ag ⟨hi, hx⟩ hag
  by_cases q : i = n
  · subst q; exact he x ag hx
  · exact hs x i ag hx hi.1 (by omega) (hag _ _ ⟨by omega, by rw [hsI_S hi.1, hx]⟩ (by omega))
/-- a loop in a loop: w numbers of each -/
theorem hash_row {F : Int → Int → (Int → Int → Prop) → Prop} (f : Fn) (w k a : Int) (w0 : 0 ≤ w) (k0 : 0 ≤ k) {x0 : Int} (hx0 : x0 = hsI f (w * k) a) (hs : ∀ (x i : Int) (ag : Int → Int → Prop), x = hsI f (w * k + i) a → 0 ≤ i → i < w → ag (31 * x + f (w * k + i)) (i + 1) → F x i ag) (he : ∀ (x : Int) (ag : Int → Int → Prop), x = hsI f (w * (k + 1)) a → F x w ag) : ∃ m, wl2 F m x0 0 := by
  have hwk : 0 ≤ w * k := Int.mul_nonneg w0 k0
  refine wl2_inv (fun x i => (0 ≤ i ∧ i ≤ w) ∧ x = hsI f (w * k + i) a) (fun _ i => (w - i).toNat) ?_ ⟨by omega, by rw [Int.add_zero]; exact hx0⟩
  rintro x i ag ⟨hi, hx⟩ hag
  by_cases q : i = w
  · subst q
    exact he x ag (by rw [Int.mul_add, Int.mul_one]; exact hx)
  · exact hs x i ag hx hi.1 (by omega) (hag _ _ ⟨by omega, by rw [← Int.add_assoc, hsI_S (by omega), hx]⟩ (by omega))
def fK (s : Rw) : Fn := fun j => kdW s (j / 10) (j % 10)
def fS (s : Rw) : Fn := fun j => sgW s (j / 9) (j % 9)
def fL (s : Rw) : Fn := fun j => lnW (s 1) (LF s) (j / 8) (j % 8)
theorem s6_hashOfKinds {a : Int} {s : Rw} {σ : St} {K : Int → Prop} (hd : Dm s) (hm : Ms σ 1 s) (hl : LG σ 14 s) (h : K (hsI (fK s) 120 a)) : f_X6_hashOfKinds a σ K := by
  unfold f_X6_hashOfKinds
  refine wl2_inv (fun x k => (0 ≤ k ∧ k ≤ 12) ∧ x = hsI (fK s) (10 * k) a) (fun _ k => (12 - k).toNat) ?_ ⟨by omega, rfl⟩
  rintro x k ag ⟨hk, hx⟩ hag
  refine ⟨⟨by omega, by omega⟩, fun q => ?_, fun q => ?_⟩
  · have e : k = 12 := by omega
    subst e
    rw [hx]; exact h
  · refine hash_row (fK s) 10 k a (by decide) hk.1 hx (fun y i ag2 hy i0 i1 hag2 => ⟨⟨by omega, by omega⟩, fun z => by omega, fun _ => s6_kindFact hd hm hl hk.1 (by omega) (by omega) ⟨kdW_rg hd hk.1 (by omega) i0, ?_⟩⟩) (fun y ag2 hy => ⟨⟨by decide, by decide⟩, fun _ => hag _ _ ⟨by omega, hy⟩ (by omega), fun z => absurd (by decide) z⟩)
    intro x6 e6
    have ef : fK s (10 * k + i) = kdW s k i := by
      show kdW s ((10 * k + i) / 10) ((10 * k + i) % 10) = _
      rw [show (10 * k + i) / 10 = k by omega, show (10 * k + i) % 10 = i by omega]
    rw [ef, ← e6] at hag2
    exact hag2
theorem s6_hashOfSigns {a : Int} {s : Rw} {σ : St} {K : Int → Prop} (hd : Dm s) (hm : Ms σ 1 s) (hl : LG σ 14 s) (h : K (hsI (fS s) (9 * s 9) a)) : f_X6_hashOfSigns a σ K := by
  have hn := hd.n
  unfold f_X6_hashOfSigns
  rw [hm.n]
  refine wl2_inv (fun x k => (0 ≤ k ∧ k ≤ s 9) ∧ x = hsI (fS s) (9 * k) a) (fun _ k => (s 9 - k).toNat) ?_ ⟨by omega, rfl⟩
  rintro x k ag ⟨hk, hx⟩ hag
  refine ⟨⟨by omega, by omega⟩, ⟨by omega, by omega⟩, fun q => ?_, fun q => ?_⟩
  · have e : k = s 9 := by omega
    subst e
    rw [hx]; exact h
  · refine hash_row (fS s) 9 k a (by decide) hk.1 hx (fun y i ag2 hy i0 i1 hag2 => ⟨⟨by omega, by omega⟩, fun z => by omega, fun _ => s6_signFact hd hm hl hk.1 (by omega) (by omega) ⟨sgW_rg hd hk.1 (by omega), ?_⟩⟩) (fun y ag2 hy => ⟨⟨by decide, by decide⟩, fun _ => hag _ _ ⟨by omega, hy⟩ (by omega), fun z => absurd (by decide) z⟩)
    intro x6 e6
    have ef : fS s (9 * k + i) = sgW s k i := by
      show sgW s ((9 * k + i) / 9) ((9 * k + i) % 9) = _
      rw [show (9 * k + i) / 9 = k by omega, show (9 * k + i) % 9 = i by omega]
    rw [ef, ← e6] at hag2
    exact hag2
theorem s6_hashOfLines {a : Int} {s : Rw} {σ : St} {K : Int → Prop} (hd : Dm s) (hl : LG σ 14 s) (h : K (hsI (fL s) (8 * (LF s).length) a)) : f_X6_hashOfLines a σ K := by
  have hlen := LF_len hd
  have e24 : σ 24 0 = (LF s).length := hl.cl.1
  unfold f_X6_hashOfLines
  rw [e24]
  refine wl2_inv (fun x k => (0 ≤ k ∧ k ≤ (LF s).length) ∧ x = hsI (fL s) (8 * k) a) (fun _ k => ((LF s).length - k).toNat) ?_ ⟨by omega, rfl⟩
  rintro x k ag ⟨hk, hx⟩ hag
  refine ⟨⟨by omega, by omega⟩, ⟨by omega, by omega⟩, fun q => ?_, fun q => ?_⟩
  · have e : k = (LF s).length := by omega
    subst e
    rw [hx]; exact h
  · refine hash_row (fL s) 8 k a (by decide) hk.1 hx (fun y i ag2 hy i0 i1 hag2 => ⟨⟨by omega, by omega⟩, fun z => by omega, fun _ => s2_fact hl.cl hl.ly hlen hk.1 (by omega) (by omega) ⟨lnW_rg hd hk.1 (by omega), ?_⟩⟩) (fun y ag2 hy => ⟨⟨by decide, by decide⟩, fun _ => hag _ _ ⟨by omega, hy⟩ (by omega), fun z => absurd (by decide) z⟩)
    intro x6 e6
    have ef : fL s (8 * k + i) = lnW (s 1) (LF s) k i := by
      show lnW (s 1) (LF s) ((8 * k + i) / 8) ((8 * k + i) % 8) = _
      rw [show (8 * k + i) / 8 = k by omega, show (8 * k + i) % 8 = i by omega]
    rw [ef, ← e6] at hag2
    exact hag2
/-- the whole hash -/
def hAll (s : Rw) (n : Int) : Int := hsI (rdW s) 3 (hsI (bxW (xF s) (cvF s)) 6 (hsI (fL s) (8 * (LF s).length) (hsI (fS s) (9 * s 9) (hsI (fK s) 120 (hsI (fun g => s (10 + g)) 5 (hsI (nbW s) 12 (105121 + n)))))))
theorem way_rg {s : Rw} (hd : Dm s) {g : Int} (h0 : 0 ≤ g) (h1 : g < 5) : Rg (s (10 + g)) := by have := hd.way g h0 h1; constructor <;> omega
theorem s6_digest {s : Rw} {n p : Int} {σ : St} {K : Int → Prop} (hd : Dm s) (hm : Ms σ 1 s) (hl : LG σ 14 s) (hn : σ 93 1 = n) (n0 : 0 ≤ n ∧ n ≤ 160) (hp : σ 0 7 = p) (p0 : 0 ≤ p ∧ p ≤ 4) (h : K (31 * hAll s n + p)) :
    Rg (σ 93 1) ∧ ∀ x2, x2 = 105121 + (σ 93 1) → (∃ n, wl2 (fun x3 x4 ag26 => (Rg x4 ∧ (x4 ≥ 12 → (∃ n, wl2 (fun x5 x6 ag53 => (Rg x6 ∧ (x6 ≥ 5 → f_X6_hashOfKinds x5 σ (fun x7 => f_X6_hashOfSigns x7 σ (fun x8 => f_X6_hashOfLines x8 σ (fun x9 => (∃ n, wl2 (fun x10 x11 ag101 => (Rg x11 ∧ (x11 ≥ 6 → (∃ n, wl2 (fun x12 x13 ag134 => (Rg x13 ∧ (x13 ≥ 3 → Rg (σ 0 7) ∧ K ((31 * x12) + (σ 0 7))) ∧ (¬ x13 ≥ 3 → f_X6_roundFact x13 σ (fun x14 => Rg x14 ∧ ∀ x15, x15 = (31 * x12) + x14 → ag134 x15 (x13 + 1))))) n x10 0)) ∧ (¬ x11 ≥ 6 → f_X0_fact 46 x11 σ (fun x16 => Rg x16 ∧ ∀ x17, x17 = (31 * x10) + x16 → ag101 x17 (x11 + 1))))) n x9 0))))) ∧ (¬ x6 ≥ 5 → (0 ≤ x6 ∧ x6 < 5) ∧ Rg (σ 11 x6) ∧ ∀ x18, x18 = (31 * x5) + (σ 11 x6) → ag53 x18 (x6 + 1)))) n x3 0)) ∧ (¬ x4 ≥ 12 → f_X6_numberOf x4 σ (fun x19 => Rg x19 ∧ ∀ x20, x20 = (31 * x3) + x19 → ag26 x20 (x4 + 1))))) n x2 0) := by
  rw [hn, hp]
  refine ⟨⟨by omega, by omega⟩, fun x2 e2 => ?_⟩
  subst e2
  refine hash_loop (nbW s) 12 (by decide) _ (fun x i ag hx i0 i1 hag => ⟨⟨by omega, by omega⟩, fun z => by omega, fun _ => s6_numberOf hm hl (by omega) ⟨nbW_rg hd (by omega), fun y hy => by rw [hy]; exact hag⟩⟩) (fun x ag hx => ⟨⟨by decide, by decide⟩, fun _ => ?_, fun z => absurd (by decide) z⟩)
  refine hash_loop (fun g => s (10 + g)) 5 (by decide) _ (fun x i ag hx i0 i1 hag => ⟨⟨by omega, by omega⟩, fun z => by omega, fun _ => ⟨⟨i0, i1⟩, ?_⟩⟩) (fun y ag hy => ⟨⟨by decide, by decide⟩, fun _ => ?_, fun z => absurd (by decide) z⟩)
  · have e11 : σ 11 i = s (10 + i) := hm.way i i0 i1
    rw [e11]
    exact ⟨way_rg hd i0 i1, fun z hz => by rw [hz]; exact hag⟩
  refine s6_hashOfKinds hd hm hl (s6_hashOfSigns hd hm hl (s6_hashOfLines hd hl ?_))
  refine hash_loop (bxW (xF s) (cvF s)) 6 (by decide) _ (fun x i ag hx i0 i1 hag => ⟨⟨by omega, by omega⟩, fun z => by omega, fun _ => s0_fact hl.bx hl.cv (by omega) ⟨bxW_rg hd, fun y hy => by rw [hy]; exact hag⟩⟩) (fun w ag hw => ⟨⟨by decide, by decide⟩, fun _ => ?_, fun z => absurd (by decide) z⟩)
  refine hash_loop (rdW s) 3 (by decide) _ (fun x i ag hx i0 i1 hag => ⟨⟨by omega, by omega⟩, fun z => by omega, fun _ => s6_roundFact hd hm hl (by omega) ⟨rdW_rg hd, fun y hy => by rw [hy]; exact hag⟩⟩) (fun u ag hu => ⟨⟨by decide, by decide⟩, fun _ => ⟨⟨by omega, by omega⟩, ?_⟩, fun z => absurd (by decide) z⟩)
  rw [hu, hw, hy, hx]
  exact h
/-! the reference's hash -/
def DG (τ σ : St) (h : Int) : Prop := τ 161 28 = h ∧ (∀ c : Nat, c ≠ 161 → τ c = σ c) ∧ ∀ f : Int, f ≠ 28 → τ 161 f = σ 161 f
theorem mix_ok {τ σ : St} {a v : Int} {K : St → Prop} (h : DG τ σ a) (hv : Rg v) (hK : ∀ ρ : St, DG ρ σ (31 * a + v) → K ρ) : f_X7_mix v τ K := by
  refine ⟨hv, fun s1 e1 => hK s1 ⟨by rw [e1, up_s, h.1], fun c g => by rw [e1, up_c g]; exact h.2.1 c g, fun f g => by rw [e1, up_i g]; exact h.2.2 f g⟩⟩
theorem mix_loop {F : Int → St → (Int → St → Prop) → Prop} {σ τ0 : St} (f : Fn) (n : Int) (h0 : 0 ≤ n) (a : Int) (h : DG τ0 σ a) (hs : ∀ (i : Int) (τ : St) (ag : Int → St → Prop), DG τ σ (hsI f i a) → 0 ≤ i → i < n → (∀ ρ : St, DG ρ σ (31 * hsI f i a + f i) → ag (i + 1) ρ) → F i τ ag) (he : ∀ (τ : St) (ag : Int → St → Prop), DG τ σ (hsI f n a) → F n τ ag) : ∃ m, wl1s F m 0 τ0 := by
  refine wl1s_inv (fun i τ => (0 ≤ i ∧ i ≤ n) ∧ DG τ σ (hsI f i a)) (fun i _ => (n - i).toNat) ?_ ⟨by omega, h⟩
  rintro i τ ag ⟨hi, hx⟩ hag
  by_cases q : i = n
  · subst q; exact he τ ag hx
  · exact hs i τ ag hx hi.1 (by omega) fun ρ hρ => hag _ _ ⟨by omega, by rw [hsI_S hi.1]; exact hρ⟩ (by omega)
theorem DG.l {τ σ : St} {a : Int} {s : Rw} (h : DG τ σ a) (hl : L7 σ s) : L7 τ s := hl.go (fun c hc => h.2.1 c (by omega)) (fun f f0 f1 => h.2.2 f (by omega))
theorem DG.r {τ σ : St} {a : Int} (h : DG τ σ a) : τ 162 = σ 162 := h.2.1 162 (by decide)
theorem o_digest {σ : St} {J : St → Prop} (hR : REL σ) (hJ : ∀ τ : St, REL τ → J τ) : f_X6_digest σ (fun x s => f_X7_digest s (fun y t => x = y ∧ J t)) := by
  unfold f_X6_digest
  refine q_cls hR fun τ hT hL e _ => ?_
  obtain ⟨p, P, hri, hmi⟩ := hT.p
  obtain ⟨t1, t2, _⟩ := hT.t
  refine s6_digest (K := fun x => f_X7_digest τ (fun y t => x = y ∧ J t)) hT.d hT.m hL rfl t1 hri.2.1 hri.2.2.1 ?_
  unfold f_X7_digest
  intro s1 e1
  have hR1 : REL s1 := by rw [e1]; exact hT.u7 0
  have r1 : s1 162 = τ 162 := by rw [e1, up_c (by decide)]
  have n1 : s1 161 6 = τ 93 1 := by rw [e1, up_i (by decide)]; exact t2
  have p1 : s1 161 4 = p := by rw [e1, up_i (by decide)]; exact hmi.1
  refine q_mod hR1 fun s2 hR2 hl2 r2 hf2 => ?_
  have hd := hR2.d
  have hn := hd.n
  have hlen := LF_len hd
  intro s3 e3
  have d3 : DG s3 s2 3391 := ⟨by rw [e3, up_s], fun c g => by rw [e3, up_c g], fun f g => by rw [e3, up_i g]⟩
  have n3 : s3 161 6 = τ 93 1 := by rw [d3.2.2 6 (by decide), hf2.2 6 (by decide)]; exact n1
  rw [n3]
  refine mix_ok d3 ⟨by omega, by omega⟩ fun s4 d4 => ?_
  have rs : s2 162 = τ 162 := r2.trans r1
  rw [show 31 * 3391 + τ 93 1 = 105121 + τ 93 1 by omega] at d4
  have H : hAll (s2 162) (τ 93 1) = hAll (τ 162) (τ 93 1) := by rw [rs]
  refine mix_loop (nbW (s2 162)) 12 (by decide) _ d4 (fun i π ag hπ i0 i1 hag => ⟨⟨by omega, by omega⟩, fun z => by omega, fun _ => s7_valueOf (by rw [hπ.r]; exact hd) (by rw [hπ.r]; exact hπ.l hl2) (by omega) ?_⟩) (fun π ag hπ => ⟨⟨by decide, by decide⟩, fun _ => ?_, fun z => absurd (by decide) z⟩)
  · rw [hπ.r]
    exact mix_ok hπ (nbW_rg hd (by omega)) hag
  refine mix_loop (fun g => s2 162 (10 + g)) 5 (by decide) _ hπ (fun i π ag hπ i0 i1 hag => ⟨⟨by omega, by omega⟩, fun z => by omega, fun _ => ⟨by omega, ?_⟩⟩) (fun π ag hπ => ⟨⟨by decide, by decide⟩, fun _ => ?_, fun z => absurd (by decide) z⟩)
  · rw [hπ.r]
    exact mix_ok hπ (way_rg hd i0 i1) hag
  refine mix_loop (fK (s2 162)) 120 (by decide) _ hπ (fun i π ag hπ i0 i1 hag => ⟨⟨by omega, by omega⟩, fun z => by omega, fun _ => ⟨⟨by omega, by omega⟩, ⟨by omega, by omega⟩, s7_kindOf (by rw [hπ.r]; exact hd) (by rw [hπ.r]; exact hπ.l hl2) (by omega) (by omega) (by omega) ?_⟩⟩) (fun π ag hπ => ⟨⟨by decide, by decide⟩, fun _ => ?_, fun z => absurd (by decide) z⟩)
  · rw [hπ.r]
    exact mix_ok hπ (kdW_rg hd (by omega) (by omega) (by omega)) hag
  unfold f_X7_mixLegend
  refine mix_loop (fS (s2 162)) (9 * s2 162 9) (by omega) _ hπ (fun i π ag hπ i0 i1 hag => ?_) (fun π ag hπ => ?_)
  · rw [hπ.r]
    refine ⟨⟨by omega, by omega⟩, ⟨by omega, by omega⟩, fun z => by omega, fun _ => ⟨⟨by omega, by omega⟩, ⟨by omega, by omega⟩, s7_signOf (by rw [hπ.r]; exact hd) (by rw [hπ.r]; exact hπ.l hl2) (by omega) (by rw [hπ.r]; omega) (by omega) ?_⟩⟩
    rw [hπ.r]
    exact mix_ok hπ (sgW_rg hd (by omega) (by omega)) hag
  rw [hπ.r]
  refine ⟨⟨by omega, by omega⟩, ⟨by omega, by omega⟩, fun _ => ?_, fun z => absurd (Int.le_refl _) z⟩
  have l13 : ∀ (π : St) (a : Int), DG π s2 a → π 161 13 = (LF (s2 162)).length := fun π a hπ => (hπ.2.2 13 (by decide)).trans hl2.ml.1
  refine mix_loop (fL (s2 162)) (8 * (LF (s2 162)).length) (by omega) _ hπ (fun i π ag hπ i0 i1 hag => ?_) (fun π ag hπ => ?_)
  · rw [l13 π _ hπ]
    refine ⟨⟨by omega, by omega⟩, ⟨by omega, by omega⟩, fun z => by omega, fun _ => ⟨⟨by omega, by omega⟩, ⟨by omega, by omega⟩, s7_lineOf (by rw [hπ.r]; exact hd) (by rw [hπ.r]; exact hπ.l hl2) (by omega) (by rw [hπ.r]; omega) (by omega) ?_⟩⟩
    rw [hπ.r]
    exact mix_ok hπ (lnW_rg hd (by omega) (by omega)) hag
  rw [l13 π _ hπ]
  refine ⟨⟨by omega, by omega⟩, ⟨by omega, by omega⟩, fun _ => ?_, fun z => absurd (Int.le_refl _) z⟩
  refine mix_loop (bxW (xF (s2 162)) (cvF (s2 162))) 6 (by decide) _ hπ (fun i π ag hπ i0 i1 hag => ⟨⟨by omega, by omega⟩, fun z => by omega, fun _ => s7_boxOf (by rw [hπ.r]; exact hd) (by rw [hπ.r]; exact hπ.l hl2) (by omega) ?_⟩) (fun π ag hπ => ⟨⟨by decide, by decide⟩, fun _ => ?_, fun z => absurd (by decide) z⟩)
  · rw [hπ.r]
    exact mix_ok hπ (bxW_rg hd) hag
  refine mix_loop (rdW (s2 162)) 3 (by decide) _ hπ (fun i π ag hπ i0 i1 hag => ⟨⟨by omega, by omega⟩, fun z => by omega, fun _ => s7_roundsOf (by rw [hπ.r]; exact hd) (by rw [hπ.r]; exact hπ.l hl2) (by omega) ?_⟩) (fun π ag hπ => ⟨⟨by decide, by decide⟩, fun _ => ?_, fun z => absurd (by decide) z⟩)
  · rw [hπ.r]
    exact mix_ok hπ (rdW_rg hd) hag
  have p4 : π 161 4 = p := by rw [hπ.2.2 4 (by decide), hf2.2 4 (by decide)]; exact p1
  have hp0 := hri.2.2.1
  show f_X7_mix (π 161 4) π _
  rw [p4]
  refine mix_ok hπ ⟨by omega, by omega⟩ fun ρ hρ => ?_
  refine ⟨?_, hJ ρ (hR2.go (fun c hc => hρ.2.1 c (by omega)) (hρ.2.2 4 (by decide)) (hρ.2.2 6 (by decide)))⟩
  rw [hρ.1, ← rs]
  rfl
/-! ===== the law ===== -/
theorem law_ok {L : Int} {xi : Int → Int} {σ : St} (hL : 0 ≤ L ∧ L ≤ 3072) (hx : ∀ i : Int, Rg (xi i)) (hR0 : REL σ) : f_L_law L xi σ := by
  unfold f_L_law
  refine wl1s_inv (fun i τ => (0 ≤ i ∧ i ≤ L) ∧ REL τ) (fun i _ => (L - i).toNat) ?_ ⟨by omega, hR0⟩
  rintro i τ ag ⟨hi, hR⟩ hag
  refine ⟨⟨by omega, by omega⟩, ⟨by omega, by omega⟩, fun _ => trivial, fun q => ⟨by omega, ?_⟩⟩
  have hJ : ∀ ρ : St, REL ρ → ag (i + 6) ρ := fun ρ h => hag _ _ ⟨by omega, h⟩ (by omega)
  have b1 : 0 ≤ i + 1 ∧ i + 1 < L := by omega
  have b2 : 0 ≤ i + 2 ∧ i + 2 < L := by omega
  have b3 : 0 ≤ i + 3 ∧ i + 3 < L := by omega
  have b4 : 0 ≤ i + 4 ∧ i + 4 < L := by omega
  have b5 : 0 ≤ i + 5 ∧ i + 5 < L := by omega
  clear hag
  refine ⟨⟨by omega, by omega⟩, fun _ => ⟨b1, b2, b3, b4, b5, o_addSign (hx _) (hx _) (hx _) (hx _) (hx _) hR hJ fun x s h => ⟨b1, b2, b3, b4, b5, h⟩⟩, ?_⟩
  refine ⟨fun _ => ⟨b1, o_removeSign (hx _) hR hJ fun x s h => ⟨b1, h⟩⟩, ?_⟩
  refine ⟨fun _ => ⟨b1, b2, b3, o_moveSign (hx _) (hx _) (hx _) hR hJ fun x s h => ⟨b1, b2, b3, h⟩⟩, ?_⟩
  refine ⟨fun _ => ⟨b1, b2, b3, b4, b5, o_setWindow (hx _) (hx _) (hx _) (hx _) (hx _) hR hJ fun x s h => ⟨b1, b2, b3, b4, b5, h⟩⟩, ?_⟩
  refine ⟨fun _ => ⟨b1, b2, o_set (hx _) (hx _) hR hJ fun x s h => ⟨b1, b2, h⟩⟩, ?_⟩
  refine ⟨fun _ => ⟨b1, b2, b3, o_setKind (hx _) (hx _) (hx _) hR hJ fun x s h => ⟨b1, b2, b3, h⟩⟩, ?_⟩
  refine ⟨fun _ => ⟨b1, b2, o_setWay (hx _) (hx _) hR hJ fun x s h => ⟨b1, b2, h⟩⟩, ?_⟩
  refine ⟨fun _ => ⟨b1, b2, o_limit (hx _) (hx _) hR hJ fun x s h => ⟨b1, b2, h⟩⟩, ?_⟩
  refine ⟨fun _ => ⟨b1, o_value (hx _) hR hJ fun x s h => ⟨b1, h⟩⟩, ?_⟩
  refine ⟨fun _ => ⟨b1, b2, o_sign (hx _) (hx _) hR hJ fun x s h => ⟨b1, b2, h⟩⟩, ?_⟩
  refine ⟨fun _ => ⟨b1, b2, o_kind (hx _) (hx _) hR hJ fun x s h => ⟨b1, b2, h⟩⟩, ?_⟩
  refine ⟨fun _ => o_lines hR hJ, ?_⟩
  refine ⟨fun _ => ⟨b1, b2, o_line (hx _) (hx _) hR hJ fun x s h => ⟨b1, b2, h⟩⟩, ?_⟩
  refine ⟨fun _ => ⟨b1, o_box (hx _) hR hJ fun x s h => ⟨b1, h⟩⟩, ?_⟩
  refine ⟨fun _ => ⟨b1, o_rounds (hx _) hR hJ fun x s h => ⟨b1, h⟩⟩, ?_⟩
  refine ⟨fun _ => o_firstLines hR hJ, ?_⟩
  refine ⟨fun _ => o_explained hR hJ, ?_⟩
  refine ⟨fun _ => ⟨b1, b2, o_linesAt (hx _) (hx _) hR hJ fun x s h => ⟨b1, b2, h⟩⟩, ?_⟩
  refine ⟨fun _ => o_bestColumns hR hJ, ?_⟩
  refine ⟨fun _ => ⟨b1, o_zoomFor (hx _) hR hJ fun x s h => ⟨b1, h⟩⟩, ?_⟩
  refine ⟨fun _ => ⟨b1, o_linesSaved (hx _) hR hJ fun x s h => ⟨b1, h⟩⟩, ?_⟩
  refine ⟨fun _ => ⟨b1, o_append (hx _) hR hJ fun x s h => ⟨b1, h⟩⟩, ?_⟩
  refine ⟨fun _ => o_clearText hR hJ, ?_⟩
  refine ⟨fun _ => o_parse hR hJ, ?_⟩
  refine ⟨fun _ => o_undo hR hJ fun x s h => h, ?_⟩
  exact ⟨fun _ => o_digest hR hJ, fun _ => hJ _ hR⟩
