/-! ===== class and law side by side ===== -/
/-- the class stands for a row -/
def C6 (σ : St) (s : Rw) : Prop := Ms σ 1 s ∧ (∃ (p : Int) (P : Int → Rw), RI σ p P) ∧ (σ 14 0 = 0 ∨ (σ 14 0 = 1 ∧ LG σ 14 s)) ∧ (0 ≤ σ 24 0 ∧ σ 24 0 ≤ 77)
def REL (σ : St) (s : Rw) : Prop := RW σ s ∧ SL s ∧ C6 σ s
def IS (σ : St) (s : Rw) : Prop := REL σ s ∧ XS σ s
theorem REL.r {σ : St} {s : Rw} (h : REL σ s) : RW σ s := h.1
theorem REL.s {σ : St} {s : Rw} (h : REL σ s) : SL s := h.2.1
theorem REL.m {σ : St} {s : Rw} (h : REL σ s) : Ms σ 1 s := h.2.2.1
theorem REL.p {σ : St} {s : Rw} (h : REL σ s) : ∃ (p : Int) (P : Int → Rw), RI σ p P := h.2.2.2.1
theorem REL.g {σ : St} {s : Rw} (h : REL σ s) : σ 14 0 = 0 ∨ (σ 14 0 = 1 ∧ LG σ 14 s) := h.2.2.2.2.1
theorem REL.n {σ : St} {s : Rw} (h : REL σ s) : 0 ≤ σ 24 0 ∧ σ 24 0 ≤ 77 := h.2.2.2.2.2
theorem C6.go {σ τ : St} {s : Rw} (h : C6 σ s) (e : ∀ c : Nat, c < 161 → τ c = σ c) : C6 τ s := by
  obtain ⟨h1, ⟨p, P, h2⟩, h3, h4⟩ := h
  refine ⟨h1.go fun c _ _ => e c (by omega), ⟨p, P, h2.go (by rw [e 0 (by decide)]) (by rw [e 0 (by decide)]) (fun c _ _ => e c (by omega))⟩, ?_, by rw [e 24 (by decide)]; exact h4⟩
  rw [e 14 (by decide)]
  rcases h3 with z | ⟨z, l⟩
  · exact Or.inl z
  · exact Or.inr ⟨z, l.go fun c _ _ => e c (by omega)⟩
theorem q_mk {s : Rw} {σ : St} {K : St → Prop} (hI : IS σ s) (h : ∀ τ : St, IS τ s → LG τ 14 s → K τ) : f_X1_make 14 1 σ K := by
  obtain ⟨hR, hX⟩ := hI
  have hd := hR.s.d
  refine s1_make hd hR.m (by decide) hR.n hR.g fun τ hc h0 hl => ?_
  refine h τ ⟨⟨hR.r.go (hc _ (by decide)) (hc _ (by decide)) (hc _ (by decide)), hR.s, ⟨hR.m.go fun c _ _ => hc c (by omega), ?_, Or.inr ⟨h0, hl⟩, ?_⟩⟩, hX.go (hc _ (by decide))⟩ hl
  · obtain ⟨p, P, h2⟩ := hR.p
    exact ⟨p, P, h2.go (by rw [hc 0 (by decide)]) (by rw [hc 0 (by decide)]) (fun c _ _ => hc c (by omega))⟩
  · have := hl.cl.1
    have h9 := LF_len hd
    rw [show (24 : Nat) = 14 + 10 by rfl, this]
    omega
theorem o_lines {s : Rw} {σ : St} {K : Int → St → Prop} (hI : IS σ s) (h : ∀ τ : St, IS τ s → K (LF s).length τ) : f_X6_lines σ K := by
  unfold f_X6_lines
  refine q_mk hI fun τ hT hl => ?_
  have e : τ 24 0 = (LF s).length := hl.cl.1
  rw [e]; exact h τ hT
theorem o_first {s : Rw} {σ : St} {K : Int → St → Prop} (hI : IS σ s) (h : ∀ τ : St, IS τ s → K (LL s 0).length τ) : f_X6_firstLines σ K := by
  unfold f_X6_firstLines
  refine q_mk hI fun τ hT hl => ?_
  rw [hl.n11]; exact h τ hT
theorem o_value {w : Int} {s : Rw} {σ : St} {K : Int → St → Prop} (hI : IS σ s) (w0 : 0 ≤ w) (w1 : w < 12) (h : ∀ τ : St, IS τ s → K (nbW s w) τ) : f_L_valueOf w σ K := by
  unfold f_L_valueOf f_X6_value
  exact s6_demandBelow ⟨by omega, by omega⟩ ⟨by decide, by decide⟩ (fun _ => q_mk hI fun τ hT hl => s6_numberOf hT.1.m hl (by omega) (h τ hT)) (fun q => absurd ⟨w0, w1⟩ q)
theorem o_rounds {w : Int} {s : Rw} {σ : St} {K : Int → St → Prop} (hI : IS σ s) (w0 : 0 ≤ w) (w1 : w < 3) (h : ∀ τ : St, IS τ s → K (rdW s w) τ) : f_L_roundsOf w σ K := by
  unfold f_L_roundsOf f_X6_rounds
  exact s6_demandBelow ⟨by omega, by omega⟩ ⟨by decide, by decide⟩ (fun _ => q_mk hI fun τ hT hl => s6_roundFact hT.1.s.d hT.1.m hl (by omega) (h τ hT)) (fun q => absurd ⟨w0, w1⟩ q)
theorem o_box {w : Int} {s : Rw} {σ : St} {K : Int → St → Prop} (hI : IS σ s) (w0 : 0 ≤ w) (w1 : w < 6) (h : ∀ τ : St, IS τ s → K (bxW (xF s) (cvF s) w) τ) : f_L_boxOf w σ K := by
  unfold f_L_boxOf f_X6_box
  exact s6_demandBelow ⟨by omega, by omega⟩ ⟨by decide, by decide⟩ (fun _ => q_mk hI fun τ hT hl => s0_fact hl.bx hl.cv (by omega) (h τ hT)) (fun q => absurd ⟨w0, w1⟩ q)
theorem o_sign {k w : Int} {s : Rw} {σ : St} {K : Int → St → Prop} (hI : IS σ s) (k0 : 0 ≤ k) (k1 : k < s 9) (w0 : 0 ≤ w) (w1 : w < 9) (h : ∀ τ : St, IS τ s → K (sgW s k w) τ) : f_L_signOf k w σ K := by
  have hn := hI.1.s.n
  unfold f_L_signOf f_X6_sign
  exact s6_demandSign hI.1.s.d hI.1.m ⟨by omega, by omega⟩ (fun _ => s6_demandBelow ⟨by omega, by omega⟩ ⟨by decide, by decide⟩ (fun _ => q_mk hI fun τ hT hl => s6_signFact hT.1.s.d hT.1.m hl k0 k1 (by omega) (h τ hT)) (fun q => absurd ⟨w0, w1⟩ q)) (fun q => absurd ⟨k0, k1⟩ q)
theorem o_kind {k w : Int} {s : Rw} {σ : St} {K : Int → St → Prop} (hI : IS σ s) (k0 : 0 ≤ k) (k1 : k < 12) (w0 : 0 ≤ w) (w1 : w < 10) (h : ∀ τ : St, IS τ s → K (kdW s k w) τ) : f_L_kindOf k w σ K := by
  unfold f_L_kindOf f_X6_kind
  exact s6_demandKind ⟨by omega, by omega⟩ (fun _ => s6_demandBelow ⟨by omega, by omega⟩ ⟨by decide, by decide⟩ (fun _ => q_mk hI fun τ hT hl => s6_kindFact hT.1.s.d hT.1.m hl k0 k1 (by omega) (h τ hT)) (fun q => absurd ⟨w0, w1⟩ q)) (fun q => absurd ⟨k0, k1⟩ q)
theorem o_line {i w : Int} {s : Rw} {σ : St} {K : Int → St → Prop} (hI : IS σ s) (i0 : 0 ≤ i) (i1 : i < (LF s).length) (w0 : 0 ≤ w) (w1 : w < 8) (h : ∀ τ : St, IS τ s → K (lnW (s 1) (LF s) i w) τ) : f_L_lineOf i w σ K := by
  unfold f_L_lineOf f_X6_line
  refine q_mk hI fun τ hT hl => ?_
  have hlen := LF_len hT.1.s.d
  have e24 : τ 24 0 = (LF s).length := hl.cl.1
  rw [e24]
  exact ⟨⟨by omega, by omega⟩, fun z => by omega, fun _ => ⟨⟨by omega, by omega⟩, ⟨by omega, by omega⟩, fun _ => s6_demandBelow ⟨by omega, by omega⟩ ⟨by decide, by decide⟩ (fun _ => s2_fact hl.cl hl.ly hlen i0 i1 (by omega) (h τ hT)) (fun q => absurd ⟨w0, w1⟩ q), fun z => by omega⟩⟩
theorem o_lineNo {i w : Int} {s : Rw} {σ : St} {K : Int → St → Prop} (hI : IS σ s) (hi : i = (LF s).length) (h : ∀ τ : St, IS τ s → K (-100001) τ) : f_L_lineOf i w σ K := by
  unfold f_L_lineOf f_X6_line
  refine q_mk hI fun τ hT hl => ?_
  have hlen := LF_len hT.1.s.d
  have e24 : τ 24 0 = (LF s).length := hl.cl.1
  rw [e24]
  exact ⟨⟨by omega, by omega⟩, fun z => by omega, fun _ => ⟨⟨by omega, by omega⟩, ⟨by omega, by omega⟩, fun z => by omega, fun _ => ⟨fun _ => h τ hT, fun z => absurd z (by decide), Or.inl rfl⟩⟩⟩
def ev (s : Rw) : UInt64 := if cI (shw s) 40 ≤ 0 then FP.dconst1 else FP.ddiv (FP.i2d (iI (cI (vF s) 40))) (FP.i2d (iI (cI (shw s) 40)))
theorem share_ok0 : ∀ a b : Fin 41, b ≠ 0 → ((FP.ddiv (FP.i2d (iI (a.val : Int))) (FP.i2d (iI (b.val : Int)))) &&& 0x7fffffffffffffff ≤ 0x7ff0000000000000) ∧ Op.cmpValue (FP.dcmp (FP.ddiv (FP.i2d (iI (a.val : Int))) (FP.i2d (iI (b.val : Int)))) (FP.ddiv (FP.i2d (iI (a.val : Int))) (FP.i2d (iI (b.val : Int))))) .l = 0 := by decide +kernel
theorem share_ok {a b : Int} (a0 : 0 ≤ a ∧ a ≤ 40) (b0 : 1 ≤ b ∧ b ≤ 40) : vf_n64 (FP.ddiv (FP.i2d (iI a)) (FP.i2d (iI b))) ∧ Op.cmpValue (FP.dcmp (FP.ddiv (FP.i2d (iI a)) (FP.i2d (iI b))) (FP.ddiv (FP.i2d (iI a)) (FP.i2d (iI b)))) .l = 0 := by
  have h := share_ok0 ⟨a.toNat, by omega⟩ ⟨b.toNat, by omega⟩ (fun e => by have := congrArg Fin.val e; simp at this; omega)
  have ea : ((a.toNat : Nat) : Int) = a := by omega
  have eb : ((b.toNat : Nat) : Int) = b := by omega
  dsimp only at h
  rw [ea, eb] at h
  exact h
theorem share_1 : Op.cmpValue (FP.dcmp FP.dconst1 FP.dconst1) .l = 0 := by decide +kernel
theorem o_explained {s : Rw} {σ : St} {K : UInt64 → St → Prop} (hI : IS σ s) (h : ∀ τ : St, IS τ s → K (ev s) τ) : f_X6_explained σ K := by
  unfold f_X6_explained
  refine q_mk hI fun τ hT hl => ?_
  have e3 := hl.n3
  have e4 := hl.n4
  intro x2 e2
  rw [e3] at e2
  subst e2
  rw [e4]
  have b1 := cI_bd (shw s) (i := 40) (by decide)
  have b2 := cI_bd (vF s) (i := 40) (by decide)
  have hh := h τ hT
  unfold ev at hh
  refine ⟨⟨by omega, by omega⟩, fun z => by rw [if_pos z] at hh; exact hh, fun z => ?_⟩
  rw [if_neg z] at hh
  exact ⟨(share_ok (a := cI (vF s) 40) (b := cI (shw s) 40) (by omega) (by omega)).1, hh⟩
/-! ===== a sign in sight stands at one line ===== -/
def cS (s : Rw) (n : Int) (L : List Ln) : Nat := (L.filter (fun x => stX s x n)).length
theorem cS_app {s : Rw} {n : Int} {L M : List Ln} : cS s n (L ++ M) = cS s n L + cS s n M := by unfold cS; rw [List.filter_append, List.length_append]
theorem cS_one {s : Rw} {n : Int} {L : List Ln} (h : cS s n L ≤ 1) {i j : Nat} {x y : Ln} (hx : L[i]? = some x) (hy : L[j]? = some y) (px : stX s x n = true) (py : stX s y n = true) : i = j := by
  have key : ∀ (L : List Ln), cS s n L ≤ 1 → ∀ (i j : Nat) (x y : Ln), i < j → L[i]? = some x → L[j]? = some y → stX s x n = true → stX s y n = true → False := by
    intro L
    induction L with
    | nil => intro _ i j x y _ hx; simp at hx
    | cons a L ih =>
      intro h i j x y hij hx hy px py
      cases j with
      | zero => omega
      | succ j =>
        rw [List.getElem?_cons_succ] at hy
        unfold cS at h
        rw [List.filter_cons] at h
        cases i with
        | zero =>
          rw [List.getElem?_cons_zero] at hx
          cases hx
          rw [if_pos px, List.length_cons] at h
          have hm : y ∈ L.filter (fun x => stX s x n) := List.mem_filter.mpr ⟨List.mem_of_getElem? hy, py⟩
          have := List.length_pos_of_mem hm
          omega
        | succ i =>
          rw [List.getElem?_cons_succ] at hx
          refine ih ?_ i j x y (by omega) hx hy px py
          unfold cS
          split at h
          · rw [List.length_cons] at h; omega
          · exact h
  by_cases q : i = j
  · exact q
  · by_cases z : i < j
    · exact (key L h i j x y z hx hy px py).elim
    · exact (key L h j i y x (by omega) hy hx py px).elim
theorem cS_KLn {s : Rw} {v : Int → Bool} {n k : Int} (hT : TOK s v k (rg s v k)) : ∀ m : Nat, (m : Int) ≤ (rg s v k).1 → (k ≠ kd s n → cS s n (KLn s v k m) = 0) ∧ cS s n (KLn s v k m) ≤ 1 ∧ (1 ≤ cS s n (KLn s v k m) → ∃ j : Int, 0 ≤ j ∧ j < m ∧ cls s n ≤ (rg s v k).2.2.1 j)
  | 0, _ => ⟨fun _ => rfl, Nat.zero_le _, fun z => by have : cS s n (KLn s v k 0) = 0 := rfl; omega⟩
  | m + 1, hm => by
    obtain ⟨h1, h2, h3⟩ := cS_KLn (n := n) hT m (by omega)
    rw [KLn_S, cS_app]
    have e1 : ∀ x : Ln, cS s n [x] = if stX s x n = true then 1 else 0 := fun x => by
      unfold cS
      rw [List.filter_cons]
      split <;> rfl
    rw [e1]
    by_cases q : stX s ((0, k, gp s k, (rg s v k).2.1 m, (rg s v k).2.2.1 m, (rg s v k).2.2.2 m) : Ln) n = true
    · rw [if_pos q]
      have q := of_decide_eq_true q
      have q : k = kd s n ∧ (rg s v k).2.1 m ≤ cls s n ∧ cls s n ≤ (rg s v k).2.2.1 m := by
        rcases q with ⟨z, _⟩ | ⟨_, z⟩
        · exact absurd z (by show ¬ (0 : Int) = 2; decide)
        · exact z
      have z0 : cS s n (KLn s v k m) = 0 := by
        refine Classical.byContradiction fun w => ?_
        obtain ⟨j, j0, j1, hj⟩ := h3 (by omega)
        -- ranges before are below
        have below : ∀ d : Nat, ∀ i : Int, 0 ≤ i → i + d + 1 < (rg s v k).1 → (rg s v k).2.2.1 i < (rg s v k).2.1 (i + d + 1) := by
          intro d
          induction d with
          | zero => intro i i0 i1; rw [show i + ((0 : Nat) : Int) + 1 = i + 1 by omega] at *; exact (hT.2.2.2 i i0 (by omega)).1
          | succ d ih =>
            intro i i0 i1
            have a1 := ih i i0 (by omega)
            have a2 := (hT.2.2.1 (i + d + 1) (by omega) (by omega)).2.1
            have a3 := (hT.2.2.2 (i + d + 1) (by omega) (by omega)).1
            rw [show i + ((d + 1 : Nat) : Int) + 1 = i + d + 1 + 1 by omega]
            omega
        have := below ((m : Int) - j - 1).toNat j j0 (by omega)
        rw [show j + (((m : Int) - j - 1).toNat : Int) + 1 = m by omega] at this
        omega
      refine ⟨fun w => absurd q.1 w, by omega, fun _ => ⟨m, by omega, by omega, q.2.2⟩⟩
    · rw [if_neg q]
      refine ⟨fun w => by have := h1 w; omega, by omega, fun w => ?_⟩
      obtain ⟨j, j0, j1, hj⟩ := h3 (by omega)
      exact ⟨j, j0, by omega, hj⟩
theorem cS_KL {s : Rw} (hd : Dm s) {v : Int → Bool} {n k : Int} : (k ≠ kd s n → cS s n (KL s v k) = 0) ∧ cS s n (KL s v k) ≤ 1 := by
  have hT := rg_ok hd v k
  have := cS_KLn (n := n) hT (rg s v k).1.toNat (by have := hT.1; omega)
  exact ⟨this.1, this.2.1⟩
theorem cS_fm {s : Rw} (hd : Dm s) {v : Int → Bool} {n : Int} : ∀ B : List Int, B.Nodup → (kd s n ∉ B → cS s n (B.flatMap (KL s v)) = 0) ∧ cS s n (B.flatMap (KL s v)) ≤ 1
  | [], _ => ⟨fun _ => rfl, Nat.zero_le _⟩
  | k :: B, hB => by
    rw [List.nodup_cons] at hB
    obtain ⟨h1, h2⟩ := cS_fm hd (v := v) (n := n) B hB.2
    obtain ⟨g1, g2⟩ := cS_KL hd (v := v) (n := n) (k := k)
    rw [List.flatMap_cons, cS_app]
    refine ⟨fun z => ?_, ?_⟩
    · rw [List.mem_cons] at z
      have a1 := g1 (fun w => z (Or.inl w.symm))
      have a2 := h1 (fun w => z (Or.inr w))
      omega
    · by_cases q : k = kd s n
      · have := h1 (fun w => hB.1 (q ▸ w))
        omega
      · have := g1 q
        omega
theorem cS_GL {s : Rw} (hd : Dm s) {v : Int → Bool} {n g : Int} (hO : (Od s v).Nodup) : (gp s (kd s n) ≠ g → cS s n (GL s v g) = 0) ∧ cS s n (GL s v g) ≤ 1 := by
  unfold GL
  split
  · have e1 : cS s n [((2, -1, g, -1, -1, gs s v g) : Ln)] = if stX s ((2, -1, g, -1, -1, gs s v g) : Ln) n = true then 1 else 0 := by
      unfold cS
      rw [List.filter_cons]
      split <;> rfl
    rw [e1]
    refine ⟨fun z => ?_, by split <;> omega⟩
    rw [if_neg]
    intro w
    have w := of_decide_eq_true w
    rcases w with ⟨_, w⟩ | ⟨w, _⟩
    · exact z w.symm
    · exact absurd w (by show ¬ (2 : Int) = 0; decide)
  · have e0 : cS s n (GH s v g) = 0 := by
      unfold GH
      split
      · unfold cS
        rw [List.filter_cons, if_neg]
        · rfl
        · intro w
          have w := of_decide_eq_true w
          rcases w with ⟨w, _⟩ | ⟨w, _⟩
          · exact absurd w (by show ¬ (1 : Int) = 2; decide)
          · exact absurd w (by show ¬ (1 : Int) = 0; decide)
      · rfl
    rw [cS_app, e0, Nat.zero_add]
    obtain ⟨h1, h2⟩ := cS_fm hd (v := v) (n := n) ((Od s v).filter (ing s g)) (hO.filter _)
    exact ⟨fun z => h1 fun w => z (of_decide_eq_true (List.mem_filter.mp w).2), h2⟩
theorem cS_em {s : Rw} (hd : Dm s) {v : Int → Bool} {n : Int} (hO : (Od s v).Nodup) : ∀ (R : List Int) (D : Int → Bool), R.Nodup → (¬ (gp s (kd s n) = -1 ∧ kd s n ∈ R) → (gp s (kd s n) = -1 ∨ D (gp s (kd s n)) = true) → cS s n (em s v R D) = 0) ∧ cS s n (em s v R D) ≤ 1
  | [], D, _ => ⟨fun _ _ => rfl, Nat.zero_le _⟩
  | k :: r, D, hR => by
    rw [List.nodup_cons] at hR
    unfold em
    by_cases q1 : gp s k = -1
    · rw [if_pos q1, cS_app]
      obtain ⟨i1, i2⟩ := cS_em hd (n := n) hO r D hR.2
      obtain ⟨g1, g2⟩ := cS_KL hd (v := v) (n := n) (k := k)
      refine ⟨fun z1 z2 => ?_, ?_⟩
      · have a1 := g1 (fun w => z1 ⟨w ▸ q1, w ▸ List.mem_cons_self⟩)
        have a2 := i1 (fun w => z1 ⟨w.1, List.mem_cons_of_mem _ w.2⟩) z2
        omega
      · by_cases q : k = kd s n
        · have := i1 (fun w => hR.1 (q ▸ w.2)) (Or.inl (q ▸ q1))
          omega
        · have := g1 q
          omega
    · rw [if_neg q1]
      by_cases q2 : D (gp s k) = true
      · rw [if_pos q2]
        obtain ⟨i1, i2⟩ := cS_em hd (n := n) hO r D hR.2
        exact ⟨fun z1 z2 => i1 (fun w => z1 ⟨w.1, List.mem_cons_of_mem _ w.2⟩) z2, i2⟩
      · rw [if_neg q2, cS_app]
        have hD : D (gp s k) = false := by simpa using q2
        obtain ⟨i1, i2⟩ := cS_em hd (n := n) hO r (addD D (gp s k)) hR.2
        obtain ⟨g1, g2⟩ := cS_GL hd (v := v) (n := n) (g := gp s k) hO
        refine ⟨fun z1 z2 => ?_, ?_⟩
        · have a1 := g1 (fun w => by
            rcases z2 with z2 | z2
            · omega
            · rw [w, hD] at z2; exact absurd z2 (by decide))
          have a2 := i1 (fun w => z1 ⟨w.1, List.mem_cons_of_mem _ w.2⟩) (z2.imp id fun w => by unfold addD; rw [w]; rfl)
          omega
        · by_cases q : gp s (kd s n) = gp s k
          · have := i1 (fun w => by omega) (Or.inr (by unfold addD; rw [q]; simp))
            omega
          · have := g1 q
            omega
theorem Od_nodup {s : Rw} {v : Int → Bool} : (Od s v).Nodup := (Od_sorted (s := s) (v := v)).imp (fun {a b} z e => by unfold ltk at z; rw [e] at z; omega)
theorem cS_Lns {s : Rw} (hd : Dm s) {v : Int → Bool} {n : Int} : cS s n (Lns s v) ≤ 1 := (cS_em hd (n := n) Od_nodup (Od s v) _ Od_nodup).2
