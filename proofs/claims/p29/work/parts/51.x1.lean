/-! ===== the rounds ===== -/
def no5 : Bx := (-1, -1, -1, -1, -1)
def sgt (s : Rw) (x : Bx) (k : Int) : Bool := decide (k < s 9) && (sh' s k && !(cov s x k))
def xs (s : Rw) : Nat → Bx
  | 0 => no5
  | n + 1 => bx s (Lns s (sgt s (xs s n)))
def vv (s : Rw) (n : Nat) : Int → Bool := sgt s (xs s n)
def LL (s : Rw) (n : Nat) : List Ln := Lns s (vv s n)
def same (s : Rw) (n : Nat) : Bool := sm5 (LL s n) (LL s (n - 1))
def nf (s : Rw) : Nat → Nat → Nat
  | 0, n => n
  | f + 1, n => if same s n = true then n else nf s f (n + 1)
/-- the last round, from 0 -/
def NN (s : Rw) : Nat := nf s 6 1
theorem nf_same {s : Rw} {n : Nat} (h : same s n = true) (f : Nat) : nf s f n = n := by
  cases f with
  | zero => rfl
  | succ f => unfold nf; rw [if_pos h]
theorem nf_bd {s : Rw} : ∀ (f n : Nat), n ≤ nf s f n ∧ nf s f n ≤ n + f
  | 0, n => ⟨Nat.le_refl _, Nat.le_refl _⟩
  | f + 1, n => by
    have := nf_bd (s := s) f (n + 1)
    unfold nf
    split <;> omega
theorem NN_bd (s : Rw) : 1 ≤ NN s ∧ NN s ≤ 7 := nf_bd 6 1
theorem cov_no {s : Rw} {x : Bx} {k : Int} (h : x.1 = -1) : cov s x k = false := decide_eq_false fun z => z.1 h
theorem sgt_no {s : Rw} {k : Int} : sgt s no5 k = shw s k := by
  unfold sgt shw
  rw [cov_no rfl, Bool.not_false, Bool.and_true]
theorem sgt_lt {s : Rw} {x : Bx} {k : Int} (h : sgt s x k = true) : k < s 9 := by
  unfold sgt at h
  rw [Bool.and_eq_true] at h
  exact of_decide_eq_true h.1
theorem xs_ok {s : Rw} (hd : Dm s) : ∀ n : Nat, BxOK (xs s n)
  | 0 => ⟨(by decide : (-1 : Int) ≤ -1 ∧ (-1 : Int) ≤ 3), fun h => absurd rfl h⟩
  | n + 1 => bx_ok hd (Lns_len hd _)
theorem LL_len {s : Rw} (hd : Dm s) (n : Nat) : (LL s n).length ≤ 77 := Lns_len hd _
theorem LL_wf {s : Rw} (hd : Dm s) (n : Nat) {x : Ln} (h : x ∈ LL s n) : WF s (vv s n) x := Lns_wf hd h
theorem LL_sm {s : Rw} (hd : Dm s) (n : Nat) : ∀ x ∈ LL s n, Sm x := fun x h => (LL_wf hd n h).sm hd
theorem cI_lim {P : Int → Bool} {n m : Int} (h0 : 0 ≤ n) (h1 : n ≤ m) : cI (fun k => decide (k < n) && P k) m = cI P n := by
  have key : ∀ j : Nat, cI (fun k => decide (k < n) && P k) (n + j) = cI P n := by
    intro j
    induction j with
    | zero =>
      rw [show n + ((0 : Nat) : Int) = n by omega]
      exact cI_eq fun k k0 k1 => by rw [decide_eq_true k1, Bool.true_and]
    | succ j ih =>
      rw [show n + ((j + 1 : Nat) : Int) = (n + j) + 1 by omega, cI_S _ (by omega), ih, decide_eq_false (by omega : ¬ (n + (j : Int) < n))]
      simp only [Bool.false_and, b01, Int.add_zero]
  have := key (m - n).toNat
  rw [show n + (((m - n).toNat : Nat) : Int) = m by omega] at this
  exact this
theorem shw_many {s : Rw} (hd : Dm s) : cI (shw s) 40 = cI (sh' s) (s 9) := cI_lim hd.n.1 hd.n.2
/-! ===== the class: a legend ===== -/
theorem s1_seeAllShown {b q : Nat} {s : Rw} {σ : St} {K : St → Prop} (hd : Dm s) (hm : Ms σ q s) (hq : q + 12 < b)
    (h : ∀ σ' : St, (∀ c : Nat, c ≠ b → c ≠ b + 1 → c ≠ b + 2 → σ' c = σ c) → (∀ f : Int, f ≠ 3 → σ' b f = σ b f) → VA σ' (b + 1) (shw s) → VA σ' (b + 2) (shw s) → σ' b 3 = cI (shw s) 40 → K σ') : f_X1_seeAllShown b q σ K := by
  have hn := hd.n
  unfold f_X1_seeAllShown
  intro s1 e1
  refine wl1s_inv (fun i τ => (0 ≤ i ∧ i ≤ 40) ∧ (∀ c : Nat, c ≠ b → c ≠ b + 1 → c ≠ b + 2 → τ c = σ c) ∧ (∀ f : Int, f ≠ 3 → τ b f = σ b f) ∧ (∀ k : Int, 0 ≤ k → k < i → τ (b + 1) k = b01 (shw s k) ∧ τ (b + 2) k = b01 (shw s k)) ∧ τ b 3 = cI (shw s) i) (fun i _ => (40 - i).toNat) ?_ ⟨by omega, fun c h1 h2 h3 => by rw [e1, up_c h1], fun f hf => by rw [e1, up_i hf], fun k k0 k1 => by omega, by rw [e1, up_s]; rfl⟩
  rintro i τ ag ⟨hi, hc, hf, hv, h3⟩ hag
  refine ⟨⟨by omega, by omega⟩, fun q1 => ?_, fun q1 => ?_⟩
  · have e : i = 40 := by omega
    subst e
    exact h τ hc hf (fun k k0 k1 => (hv k k0 k1).1) (fun k k0 k1 => (hv k k0 k1).2) h3
  have hm2 : Ms τ q s := hm.go fun c h1 h2 => hc c (by omega) (by omega) (by omega)
  have e5 : τ q 5 = s 9 := hm2.n
  rw [e5]
  refine wj1_intro (fun y => y = b01 (shw s i)) (fun y hy => ?_) (fun J hJ => ?_)
  · refine ⟨by omega, by rw [hy]; exact b01_bl _, ?_⟩
    intro s8 e8
    have a8 : s8 (b + 1) i = b01 (shw s i) := by rw [e8, up_s]; exact hy
    rw [a8]
    refine ⟨by omega, by omega, b01_bl _, ?_⟩
    intro s9 e9
    have a9 : s9 (b + 1) i = b01 (shw s i) := by rw [e9, up_c (by omega)]; exact a8
    have a3 : s9 b 3 = cI (shw s) i := by rw [e9, up_c (by omega), e8, up_c (by omega)]; exact h3
    rw [a9, a3]
    have fin : ∀ t : Int, t = cI (shw s) i + b01 (shw s i) → ag (i + 1) (up2 s9 b 3 t) := fun t ht => by
      refine hag _ _ ⟨by omega, fun c h1 h2 h4 => ?_, fun f h1 => ?_, fun k k0 k1 => ?_, ?_⟩ (by omega)
      · rw [up_c h1, e9, up_c h4, e8, up_c h2]; exact hc c h1 h2 h4
      · rw [up_i h1, e9, up_c (by omega), e8, up_c (by omega)]; exact hf f h1
      · rw [up_c (by omega), up_c (by omega)]
        by_cases q2 : k = i
        · subst q2
          exact ⟨a9, by rw [e9, up_s]⟩
        · rw [e9, up_c (by omega), up_i q2, e8, up_i q2, up_c (by omega)]; exact hv k k0 (by omega)
      · rw [up_s, cI_S _ hi.1]; exact ht
    refine ⟨by omega, b01_split (fun r => ?_) (fun r => ?_)⟩
    · intro s10 e10
      rw [e10]
      exact fin _ (by rw [r]; rfl)
    · intro s11 e11
      rw [e11]
      exact fin _ (by rw [r]; rfl)
  · refine wj0_intro (shw s i = false) (fun z => hJ 0 (by rw [z]; rfl)) (fun J2 h2 => ⟨⟨by omega, by omega⟩, ⟨by omega, by omega⟩, fun q2 => h2 ?_, fun q2 => s3_isShown hd hm2 hi.1 (by omega) (b01_split (fun r => h2 ?_) (fun r => hJ 1 ?_))⟩)
    · unfold shw; rw [decide_eq_false (by omega)]; rfl
    · rw [shw_lt (by omega)]; exact r
    · rw [shw_lt (by omega), r]; rfl
theorem s1_hideCovered {b q : Nat} {s : Rw} {σ : St} {K : St → Prop} (hd : Dm s) (hm : Ms σ q s) (hq : q + 12 < b) (hv : VA σ (b + 1) (shw s)) (hb : BxOK (b0 σ (b + 32)))
    (h : ∀ σ' : St, (∀ c : Nat, c ≠ b + 2 → σ' c = σ c) → VA σ' (b + 2) (sgt s (b0 σ (b + 32))) → K σ') : f_X1_hideCovered b q σ K := by
  have hn := hd.n
  unfold f_X1_hideCovered
  refine wl1s_inv (fun i τ => (0 ≤ i ∧ i ≤ 40) ∧ (∀ c : Nat, c ≠ b + 2 → τ c = σ c) ∧ ∀ k : Int, 0 ≤ k → k < i → τ (b + 2) k = b01 (sgt s (b0 σ (b + 32)) k)) (fun i _ => (40 - i).toNat) ?_ ⟨by omega, fun _ _ => rfl, fun k k0 k1 => by omega⟩
  rintro i τ ag ⟨hi, hc, hk⟩ hag
  refine ⟨⟨by omega, by omega⟩, fun q1 => ?_, fun q1 => ⟨by omega, ?_⟩⟩
  · have e : i = 40 := by omega
    subst e
    exact h τ hc hk
  have fin : ∀ t : Int, t = b01 (sgt s (b0 σ (b + 32)) i) → ag (i + 1) (up2 τ (b + 2) i t) := fun t ht => by
    refine hag _ _ ⟨by omega, fun c h1 => ?_, fun k k0 k1 => ?_⟩ (by omega)
    · rw [up_c h1]; exact hc c h1
    · by_cases q2 : k = i
      · rw [q2, up_s]; exact ht
      · rw [up_i q2]; exact hk k k0 (by omega)
  have eb : b0 τ (b + 32) = b0 σ (b + 32) := by unfold b0; rw [hc _ (by omega)]
  refine sp3 (B := shw s i) (by rw [hc _ (by omega)]; exact hv i hi.1 (by omega)) (fun r => ⟨by omega, ?_⟩) (fun r => ?_)
  · intro s3 e3
    rw [e3]
    refine fin _ ?_
    unfold shw at r
    unfold sgt
    rw [← Bool.and_assoc, r]; rfl
  · have hl : i < s 9 := by
      unfold shw at r
      rw [Bool.and_eq_true] at r
      exact of_decide_eq_true r.1
    rw [shw_lt hl] at r
    refine s0_covers hd (hm.go fun c h1 h2 => hc c (by omega)) (by rw [eb]; exact hb) hi.1 hl (b01_tilps (fun t => ⟨by omega, ?_⟩) (fun t => ⟨by omega, ?_⟩))
    · rw [eb] at t
      intro s5 e5
      rw [e5]
      exact fin _ (by unfold sgt; rw [t, Bool.not_true, Bool.and_false, Bool.and_false]; rfl)
    · rw [eb] at t
      intro s6 e6
      rw [e6]
      exact fin _ (by unfold sgt; rw [t, r, decide_eq_true hl]; rfl)
/-- what a round leaves -/
def RND (σ : St) (b : Nat) (s : Rw) (v : Int → Bool) (p : Int) : Prop := BD σ (b + 3) s v ∧ CL σ (b + 10) (Lns s v) ∧ LY σ (b + 10) (s 1) (Lns s v) ∧ b0 σ (b + 32) = bx s (Lns s v) ∧ σ (b + 32) 5 = (if (Lns s v).length = 0 then -1 else ctb s (bx s (Lns s v))) ∧ σ b 9 = p
theorem LY.go {σ τ : St} {b : Nat} {c : Int} {L : List Ln} (h : LY σ b c L) (e9 : τ b 9 = σ b 9) (e10 : τ b 10 = σ b 10) (e7 : τ (b + 7) = σ (b + 7)) (e8 : τ (b + 8) = σ (b + 8)) : LY τ b c L := by
  unfold LY
  rw [e9, e10, e7, e8]
  exact h
theorem RND.go {σ τ : St} {b : Nat} {s : Rw} {v : Int → Bool} {p : Int} (h : RND σ b s v p) (e : ∀ c : Nat, b + 3 < c → c ≤ b + 32 → τ c = σ c) (e9 : τ b 9 = σ b 9) : RND τ b s v p := by
  obtain ⟨h1, h2, h3, h4, h5, h6⟩ := h
  refine ⟨h1.go fun c g1 g2 => e c (by omega) (by omega), h2.go (by rw [e _ (by omega) (by omega)]) (fun c g1 g2 => e c (by omega) (by omega)), h3.go (by rw [e _ (by omega) (by omega)]) (by rw [e _ (by omega) (by omega)]) (e _ (by omega) (by omega)) (e _ (by omega) (by omega)), ?_, ?_, e9.trans h6⟩
  · unfold b0; rw [e _ (by omega) (by omega)]; exact h4
  · rw [e _ (by omega) (by omega)]; exact h5
theorem s1_makeRound {b q : Nat} {p : Int} {s : Rw} {v : Int → Bool} {M : List Ln} {σ : St} {K : St → Prop} (hd : Dm s) (hm : Ms σ q s) (hq : q + 12 < b) (hv : VA σ (b + 1) (shw s)) (hw : VA σ (b + 2) v) (hp : Rg p) (hz : 0 ≤ σ (b + 10) 0 ∧ σ (b + 10) 0 ≤ 77) (hM : p ≠ 1 → C5 σ (b + 10) M ∧ M.length ≤ 77 ∧ ∀ x ∈ M, Sm x)
    (h : ∀ σ' : St, (∀ c : Nat, c < b ∨ b + 32 < c ∨ c = b + 1 ∨ c = b + 2 → σ' c = σ c) → (∀ f : Int, f ≠ 9 → f ≠ 10 → f ≠ 11 → σ' b f = σ b f) → RND σ' b s v p → (p ≠ 1 → σ' b 10 = b01 (sm5 (Lns s v) M) ∧ σ' b 11 = σ b 11) → (p = 1 → σ' b 10 = σ b 10 ∧ σ' b 11 = (Lns s v).length) → K σ') : f_X1_makeRound b q p σ K := by
  have hS := hd.set
  have hl := Lns_len hd v
  have hsm : ∀ x ∈ Lns s v, Sm x := fun x hx => (Lns_wf hd hx).sm hd
  unfold f_X1_makeRound
  refine s2_copyFrom rfl hz.1 hz.2 (by omega) fun σ1 c1 f1 z1 p1 => ?_
  have k1 : ∀ c : Nat, c < b + 21 ∨ b + 26 < c → σ1 c = σ c := fun c hc => c1 c (by omega)
  refine s4_build (s := s) (v := v) hd (hm.go fun c g1 g2 => k1 c (by omega)) (fun k k0 k2 => by rw [k1 _ (by omega)]; exact hw k k0 k2) (by omega) (by omega) fun σ2 c2 d2 => ?_
  refine s2_compose (s := s) (v := v) hd (hm.go fun c g1 g2 => by rw [c2 c (by omega)]; exact k1 c (by omega)) d2 (by omega) (by omega) fun σ3 c3 f3 l3 => ?_
  have kq : ∀ c : Nat, c < b ∨ b + 32 < c ∨ c = b ∨ c = b + 1 ∨ c = b + 2 → σ3 c = σ c := fun c hc => by rw [c3 c (by omega), c2 c (by omega), k1 c (by omega)]
  have m3 : Ms σ3 q s := hm.go fun c g1 g2 => kq c (by omega)
  rw [m3.set 1 (by decide) (by decide)]
  refine s2_layOut l3 hl hsm hS.2.1.1 hS.2.1.2 fun σ4 c4 f4 y4 => ?_
  have l4 : CL σ4 (b + 10) (Lns s v) := l3.go (f4 0 (by decide) (by decide)) fun c g1 g2 => c4 c (by omega) (by omega) (by omega)
  have m4 : Ms σ4 q s := m3.go fun c g1 g2 => c4 c (by omega) (by omega) (by omega)
  refine s0_place (s := s) hd m4 l4 y4 hl (fun k k0 k2 => by rw [c4 _ (by omega) (by omega) (by omega), kq _ (by omega)]; exact hv k k0 k2) (by omega) (by omega) (by omega) fun σ5 c5 b5 v5 => ?_
  intro s6 e6
  have n6 : ∀ c : Nat, c ≠ b → c ≠ b + 32 → s6 c = σ4 c := fun c g1 g2 => by rw [e6, up_c g1, c5 c g2]
  have l6 : CL s6 (b + 10) (Lns s v) := l4.go (by rw [n6 _ (by omega) (by omega)]) fun c g1 g2 => n6 c (by omega) (by omega)
  have y6 : LY s6 (b + 10) (s 1) (Lns s v) := y4.go (by rw [n6 _ (by omega) (by omega)]) (by rw [n6 _ (by omega) (by omega)]) (n6 _ (by omega) (by omega)) (n6 _ (by omega) (by omega))
  have d6 : BD s6 (b + 3) s v := d2.go fun c g1 g2 => by rw [n6 c (by omega) (by omega), c4 c (by omega) (by omega) (by omega), c3 c (by omega)]
  have R6 : RND s6 b s v p := ⟨d6, l6, y6, by rw [← b5]; unfold b0; rw [e6, up_c (by omega)], by rw [e6, up_c (by omega)]; exact v5, by rw [e6, up_s]⟩
  have F6 : ∀ c : Nat, c < b ∨ b + 32 < c ∨ c = b + 1 ∨ c = b + 2 → s6 c = σ c := fun c hc => by rw [n6 c (by omega) (by omega), c4 c (by omega) (by omega) (by omega), kq c (by omega)]
  have G6 : ∀ f : Int, f ≠ 9 → s6 b f = σ b f := fun f hf => by rw [e6, up_i hf, c5 b (by omega), c4 b (by omega) (by omega) (by omega), kq b (by omega)]
  refine ⟨hp, fun q1 => ?_, fun q1 => ?_⟩
  · obtain ⟨hM1, hM2, hM3⟩ := hM q1
    have C6 : C5 s6 (b + 21) M := by
      have t0 : s6 (b + 21) 0 = M.length := by
        rw [n6 _ (by omega) (by omega), c4 _ (by omega) (by omega) (by omega), c3 _ (by omega), c2 _ (by omega), z1]; exact hM1.1
      refine ⟨t0, fun i x hx => ?_⟩
      have hi := get_lt hx
      have g := p1 i (by omega) (by rw [hM1.1]; omega)
      have g2 := hM1.2 i x hx
      have kk : ∀ c : Nat, b + 21 < c → c ≤ b + 26 → s6 c = σ1 c := fun c h1 h2 => by rw [n6 c (by omega) (by omega), c4 c (by omega) (by omega) (by omega), c3 c (by omega), c2 c (by omega)]
      rw [kk (b + 21 + 1) (by omega) (by omega), kk (b + 21 + 2) (by omega) (by omega), kk (b + 21 + 3) (by omega) (by omega), kk (b + 21 + 4) (by omega) (by omega), kk (b + 21 + 5) (by omega) (by omega)]
      exact ⟨g.1.trans g2.1, g.2.1.trans g2.2.1, g.2.2.1.trans g2.2.2.1, g.2.2.2.1.trans g2.2.2.2.1, g.2.2.2.2.trans g2.2.2.2.2⟩
    refine s2_isSameAs l6.c5 C6 hl hM2 hsm hM3 ⟨b01_bl _, ?_⟩
    intro s8 e8
    refine h _ (fun c hc => by rw [e8, up_c (by omega)]; exact F6 c hc) (fun f g1 g2 g3 => by rw [e8, up_i g2]; exact G6 f g1) (R6.go (fun c g1 g2 => by rw [e8, up_c (by omega)]) (by rw [e8, up_i (by decide)])) (fun _ => ⟨by rw [e8, up_s], by rw [e8, up_i (by decide)]; exact G6 11 (by decide)⟩) (fun z => absurd z q1)
  · intro s9 e9
    have q1 : p = 1 := Decidable.not_not.mp q1
    refine h _ (fun c hc => by rw [e9, up_c (by omega)]; exact F6 c hc) (fun f g1 g2 g3 => by rw [e9, up_i g3]; exact G6 f g1) (R6.go (fun c g1 g2 => by rw [e9, up_c (by omega)]) (by rw [e9, up_i (by decide)])) (fun z => absurd q1 z) (fun _ => ⟨by rw [e9, up_i (by decide)]; exact G6 10 (by decide), by rw [e9, up_s]; exact l6.1⟩)
/-- a legend that stands for a row -/
def LG (σ : St) (b : Nat) (s : Rw) : Prop := VA σ (b + 1) (shw s) ∧ VA σ (b + 2) (vv s (NN s)) ∧ σ b 3 = cI (shw s) 40 ∧ σ b 4 = cI (vv s (NN s)) 40 ∧ RND σ b s (vv s (NN s)) ((NN s : Int) + 1) ∧ σ b 10 = b01 (same s (NN s)) ∧ σ b 11 = (LL s 0).length
theorem s1_make {b q : Nat} {s : Rw} {σ : St} {K : St → Prop} (hd : Dm s) (hm : Ms σ q s) (hq : q + 12 < b) (hz : 0 ≤ σ (b + 10) 0 ∧ σ (b + 10) 0 ≤ 77) (hs : σ b 0 = 0 ∨ (σ b 0 = 1 ∧ LG σ b s))
    (h : ∀ σ' : St, (∀ c : Nat, c < b ∨ b + 32 < c → σ' c = σ c) → σ' b 0 = 1 → LG σ' b s → K σ') : f_X1_make b q σ K := by
  unfold f_X1_make
  refine ⟨⟨by omega, by omega⟩, fun q0 => ?_, fun q0 => ?_⟩
  · refine s1_seeAllShown hd hm hq fun σ1 c1 f1 va1 vb1 t1 => ?_
    intro s2 e2
    have c2 : ∀ c : Nat, c ≠ b → c ≠ b + 1 → c ≠ b + 2 → s2 c = σ c := fun c g1 g2 g3 => by rw [e2, up_c g1]; exact c1 c g1 g2 g3
    refine wl1s_inv (fun x τ => (∀ c : Nat, c < b ∨ b + 32 < c → τ c = σ c) ∧ VA τ (b + 1) (shw s) ∧ τ b 3 = cI (shw s) 40 ∧ (0 ≤ τ (b + 10) 0 ∧ τ (b + 10) 0 ≤ 77) ∧ ((x = 1 ∧ VA τ (b + 2) (shw s) ∧ τ b 10 = 0) ∨ ∃ n : Nat, x = n + 2 ∧ n ≤ 7 ∧ VA τ (b + 2) (vv s n) ∧ RND τ b s (vv s n) ((n : Int) + 1) ∧ τ b 10 = b01 (decide (n ≠ 0) && same s n) ∧ τ b 11 = (LL s 0).length ∧ (n ≠ 0 → nf s (7 - n) n = NN s))) (fun x _ => (10 - x).toNat) ?_ ⟨fun c hc => c2 c (by omega) (by omega) (by omega), fun k k0 k1 => by rw [e2, up_c (by omega)]; exact va1 k k0 k1, by rw [e2, up_i (by decide)]; exact t1, by rw [c2 _ (by omega) (by omega) (by omega)]; exact hz, Or.inl ⟨rfl, fun k k0 k1 => by rw [e2, up_c (by omega)]; exact vb1 k k0 k1, by rw [e2, up_s]⟩⟩
    clear e2 c2 c1 f1 va1 vb1 t1
    rintro x τ ag ⟨hc, hva, h3, h10, hph⟩ hag
    have hm2 : Ms τ q s := hm.go fun c g1 g2 => hc c (by omega)
    refine wj0_intro (∃ n : Nat, NN s = n ∧ n ≠ 0 ∧ VA τ (b + 2) (vv s n) ∧ RND τ b s (vv s n) ((n : Int) + 1) ∧ τ b 10 = b01 (same s n) ∧ τ b 11 = (LL s 0).length) ?_ (fun J hJ => ?_)
    · rintro ⟨n, en, n0, hvb, hR, hst, hfl⟩
      subst en
      intro s10 e10
      refine wl1s_inv (fun i ρ => (0 ≤ i ∧ i ≤ 40) ∧ (∀ c : Nat, c ≠ b → ρ c = τ c) ∧ (∀ f : Int, f ≠ 4 → ρ b f = τ b f) ∧ ρ b 4 = cI (vv s (NN s)) i) (fun i _ => (40 - i).toNat) ?_ ⟨by omega, fun c g1 => by rw [e10, up_c g1], fun f g1 => by rw [e10, up_i g1], by rw [e10, up_s]; rfl⟩
      rintro i ρ ag2 ⟨hi, rc, rf, r4⟩ hag2
      refine ⟨⟨by omega, by omega⟩, fun q1 => ?_, fun q1 => ⟨by omega, ?_⟩⟩
      · have e : i = 40 := by omega
        subst e
        intro s13 e13
        have kc : ∀ c : Nat, c ≠ b → s13 c = τ c := fun c g1 => by rw [e13, up_c g1]; exact rc c g1
        have kf : ∀ f : Int, f ≠ 0 → f ≠ 4 → s13 b f = τ b f := fun f g1 g2 => by rw [e13, up_i g1]; exact rf f g2
        refine h _ (fun c g => by rw [kc c (by omega)]; exact hc c g) (by rw [e13, up_s]) ⟨fun k k0 k1 => by rw [kc _ (by omega)]; exact hva k k0 k1, fun k k0 k1 => by rw [kc _ (by omega)]; exact hvb k k0 k1, by rw [kf 3 (by decide) (by decide)]; exact h3, by rw [e13, up_i (by decide)]; exact r4, hR.go (fun c g1 g2 => kc c (by omega)) (kf 9 (by decide) (by decide)), by rw [kf 10 (by decide) (by decide)]; exact hst, by rw [kf 11 (by decide) (by decide)]; exact hfl⟩
      · rw [rc _ (by omega)]
        refine sp3 (hvb i hi.1 (by omega)) (fun r => ?_) (fun r => ?_)
        · intro s14 e14
          refine hag2 _ _ ⟨by omega, fun c g1 => by rw [e14, up_c g1]; exact rc c g1, fun f g1 => by rw [e14, up_i g1]; exact rf f g1, ?_⟩ (by omega)
          rw [e14, up_s, cI_S _ hi.1, r, r4]; rfl
        · intro s15 e15
          refine hag2 _ _ ⟨by omega, fun c g1 => by rw [e15, up_c g1]; exact rc c g1, fun f g1 => by rw [e15, up_i g1]; exact rf f g1, ?_⟩ (by omega)
          rw [e15, up_s, cI_S _ hi.1, r, r4]; rfl
    · have hx : 1 ≤ x ∧ x ≤ 9 := by
        rcases hph with ⟨e, _⟩ | ⟨n, e, hn, _⟩ <;> omega
      have hst : Bl (τ b 10) := by
        rcases hph with ⟨_, _, e⟩ | ⟨n, _, _, _, _, e, _⟩
        · exact Or.inl e
        · rw [e]; exact b01_bl _
      refine ⟨⟨by omega, by omega⟩, fun q1 => hJ ?_, fun q1 => ⟨by unfold Bl at hst; omega, fun q2 => hJ ?_, fun q2 => ?_⟩⟩
      · rcases hph with ⟨e, _⟩ | ⟨n, e, hn, hvb, hR, hs10, hfl, hnf⟩
        · omega
        · have e7 : n = 7 := by omega
          subst e7
          exact ⟨7, (hnf (by decide)).symm, by decide, hvb, hR, hs10, hfl⟩
      · rcases hph with ⟨_, _, e⟩ | ⟨n, e, hn, hvb, hR, hs10, hfl, hnf⟩
        · exact absurd e q2
        · replace q2 := b01_n.mp (hs10 ▸ q2)
          rw [Bool.and_eq_true] at q2
          have n0 := of_decide_eq_true q2.1
          refine ⟨n, ?_, n0, hvb, hR, ?_, hfl⟩
          · rw [← hnf n0, nf_same q2.2]
          · rw [hs10, q2.1, q2.2]; rfl
      · have q2 : τ b 10 = 0 := Decidable.not_not.mp q2
        rcases hph with ⟨e, hvb, _⟩ | ⟨n, e, hn, hvb, hR, hs10, hfl, hnf⟩
        · subst e
          refine wj0s_intro (fun ρ => ρ = τ) (fun ρ e => ?_) (fun J2 h2 => ⟨⟨by decide, by decide⟩, fun _ => h2 _ rfl, fun z => absurd (by decide) z⟩)
          subst e
          refine s1_makeRound (v := vv s 0) (M := []) hd hm2 hq hva (fun k k0 k1 => by rw [hvb k k0 k1]; exact congrArg b01 sgt_no.symm) ⟨by decide, by decide⟩ h10 (fun z => absurd rfl z) fun σ3 c3 f3 R3 _ p3 => ?_
          have l3 := LL_len hd 0
          refine hag _ _ ⟨fun c g => by rw [c3 c (by omega)]; exact hc c g, fun k k0 k1 => by rw [c3 _ (by omega)]; exact hva k k0 k1, by rw [f3 3 (by decide) (by decide) (by decide)]; exact h3, ?_, Or.inr ⟨0, by omega, by omega, fun k k0 k1 => ?_, R3, ?_, (p3 rfl).2, fun z => absurd rfl z⟩⟩ (by omega)
          · rw [R3.2.1.1]
            have : (Lns s (vv s 0)).length ≤ 77 := l3
            omega
          · rw [c3 _ (by omega), hvb k k0 k1]; exact congrArg b01 sgt_no.symm
          · rw [(p3 rfl).1, q2]; rfl
        · have hb : b0 τ (b + 32) = xs s (n + 1) := hR.2.2.2.1
          refine wj0s_intro (fun ρ => (∀ c : Nat, c ≠ b + 2 → ρ c = τ c) ∧ VA ρ (b + 2) (vv s (n + 1))) (fun ρ => ?_) (fun J2 h2 => ⟨⟨by omega, by omega⟩, fun z => by omega, fun _ => s1_hideCovered hd hm2 hq hva (by rw [hb]; exact xs_ok hd _) fun σ3 c3 v3 => h2 _ ⟨c3, by rw [hb] at v3; exact v3⟩⟩)
          rintro ⟨kc, kv⟩
          refine s1_makeRound (v := vv s (n + 1)) (M := LL s n) hd (hm2.go fun c g1 g2 => kc c (by omega)) hq (fun k k0 k1 => by rw [kc _ (by omega)]; exact hva k k0 k1) kv ⟨by omega, by omega⟩ (by rw [kc _ (by omega)]; exact h10) (fun _ => ⟨(hR.2.1.c5).go (by rw [kc _ (by omega)]) (fun c g1 g2 => kc c (by omega)), LL_len hd n, LL_sm hd n⟩) fun σ3 c3 f3 R3 p3 _ => ?_
          have l3 := LL_len hd (n + 1)
          have p4 := p3 (by omega)
          refine hag _ _ ⟨fun c g => by rw [c3 c (by omega), kc c (by omega)]; exact hc c g, fun k k0 k1 => by rw [c3 _ (by omega), kc _ (by omega)]; exact hva k k0 k1, by rw [f3 3 (by decide) (by decide) (by decide), kc _ (by omega)]; exact h3, ?_, Or.inr ⟨n + 1, by omega, by omega, fun k k0 k1 => by rw [c3 _ (by omega)]; exact kv k k0 k1, ?_, ?_, ?_, fun _ => ?_⟩⟩ (by omega)
          · rw [R3.2.1.1]
            have : (Lns s (vv s (n + 1))).length ≤ 77 := l3
            omega
          · rw [show (((n + 1 : Nat) : Int) + 1) = x by omega]; exact R3
          · rw [p4.1, decide_eq_true (by omega : n + 1 ≠ 0), Bool.true_and]; rfl
          · rw [p4.2, kc b (by omega)]; exact hfl
          · by_cases n0 : n = 0
            · subst n0; rfl
            · have e2 := hnf n0
              have hns : same s n = false := by
                rw [hs10, decide_eq_true n0, Bool.true_and] at q2
                exact b01_0.mp q2
              rw [show 7 - n = (7 - (n + 1)) + 1 by omega] at e2
              unfold nf at e2
              rw [if_neg (by rw [hns]; decide)] at e2
              exact e2
  · rcases hs with e | ⟨e, hl⟩
    · exact absurd e q0
    · exact h σ (fun _ _ => rfl) e hl
