/-! ===== the law: all answers are its own ===== -/
theorem same_ne {x y : Int} {A B : Prop} (hx : Rg x) (e : x = y) (h : B) : Rg x ∧ Rg y ∧ (x ≠ y → A) ∧ (¬ x ≠ y → B) := by subst e; exact ⟨hx, hx, fun z => absurd rfl z, fun _ => h⟩
theorem one_eq {A B : Prop} (h : B) : Rg 1 ∧ ((1 : Int) = 0 → A) ∧ (¬ (1 : Int) = 0 → B) := ⟨by decide, fun z => absurd z (by decide), fun _ => h⟩
theorem cod_k {x : Ln} (h : Sm x) : (cod x / 1000) % 20 - 1 = x.2.1 := by
  obtain ⟨h1, h2, h3, h4, h5, -⟩ := h
  unfold cod
  omega
theorem cod_g {x : Ln} (h : Sm x) : (cod x / 100) % 10 - 1 = x.2.2.1 := by
  obtain ⟨h1, h2, h3, h4, h5, -⟩ := h
  unfold cod
  omega
theorem cod_f {x : Ln} (h : Sm x) : (cod x / 10) % 10 - 1 = x.2.2.2.1 := by
  obtain ⟨h1, h2, h3, h4, h5, -⟩ := h
  unfold cod
  omega
theorem cod_l {x : Ln} (h : Sm x) : cod x % 10 - 1 = x.2.2.2.2.1 := by
  obtain ⟨h1, h2, h3, h4, h5, -⟩ := h
  unfold cod
  omega
theorem LX_at {σ : St} {L : List Ln} (h : LX σ L) {i : Int} (i0 : 0 ≤ i) (i1 : i < L.length) : σ 164 (10 + i) = cod (LnA L i) := by
  have := h.2 _ _ (LnA_get i0 i1)
  rw [show ((i.toNat : Nat) : Int) = i by omega] at this
  exact this
theorem sL_stands {i n : Int} {s : Rw} {σ : St} {K : Int → Prop} (hI : IS σ s) (i0 : 0 ≤ i) (i1 : i < (LF s).length) (n0 : 0 ≤ n) (n1 : n < s 9) (h : K (b01 (stX s (LnA (LF s) i) n && vF s n))) : f_L_stands i n σ K := by
  have hr := hI.1.r
  have hs := hI.1.s
  have hd := hs.d
  have hn := hs.n
  have hl29 := LL_len4 hs (NN s)
  have hl29 : (LF s).length ≤ 29 := hl29
  have hsm := LF_sm hd _ (LnA_mem i0 i1)
  have hco := LX_at hI.2.2.2.1 i0 i1
  have h3 : σ 164 3 = (BSn (vF s) 12 : Nat) := hI.2.2.2.2.2.1
  have hcls := cls_bd hd n0 n1
  have hkd := hs.kd n0 n1
  have hgp := hs.k hkd.1 (by omega)
  unfold f_L_stands
  rw [hco, h3, (hr.e n0 n1).1, (hr.d hkd.1 (by omega)).2.1]
  generalize LnA (LF s) i = x at *
  have cb := cod_bd hsm
  have ct := cod_ty hsm
  have ck := cod_k hsm
  have cg := cod_g hsm
  have cf := cod_f hsm
  have cl := cod_l hsm
  obtain ⟨m1, m2, m3, m4, m5, -⟩ := hsm
  refine ⟨by omega, fun x1 e1 => ?_⟩
  subst e1
  refine ⟨by omega, fun x2 e2 => ?_⟩
  rw [ct] at e2
  subst e2
  refine ⟨by omega, by omega, fun x3 e3 => ?_⟩
  rw [cg] at e3
  subst e3
  refine sL_classOf hr hs n0 n1 ?_
  rw [ck, cf, cl]
  have T : ∀ {B : Bool}, stX s x n = B → K (b01 (B && vF s n)) := fun {B} e => by rw [← e]; exact h
  refine wj1_intro (fun y => y = b01 (stX s x n)) (fun y hy => sp3 hy (fun r => by have := T r; rw [Bool.false_and] at this; exact this) (fun r => sp5 (bit_BS (by decide) n0 (by omega)) (fun u => by have := T r; rw [u] at this; exact this) (fun u => by have := T r; rw [u] at this; exact this))) (fun J hJ => ?_)
  have tt : ((x.1 = 2 ∧ x.2.2.1 = gp s (kd s n)) ∨ (x.1 = 0 ∧ x.2.1 = kd s n ∧ x.2.2.2.1 ≤ cls s n ∧ cls s n ≤ x.2.2.2.2.1)) → J 1 := fun z => hJ 1 (by rw [show stX s x n = true from decide_eq_true z]; rfl)
  have ff : ¬ ((x.1 = 2 ∧ x.2.2.1 = gp s (kd s n)) ∨ (x.1 = 0 ∧ x.2.1 = kd s n ∧ x.2.2.2.1 ≤ cls s n ∧ cls s n ≤ x.2.2.2.2.1)) → J 0 := fun z => hJ 0 (by rw [show stX s x n = false from decide_eq_false z]; rfl)
  refine ⟨⟨by omega, by omega⟩, fun z => ?_, fun z => ⟨by omega, by omega, ⟨by omega, by omega⟩, ⟨by omega, by omega⟩, fun w => ff (by omega), fun w => tt (by omega)⟩⟩
  refine wj0_intro (¬ (x.1 = 0 ∧ x.2.1 = kd s n ∧ x.2.2.2.1 ≤ cls s n ∧ cls s n ≤ x.2.2.2.2.1)) (fun w => ff (by omega)) (fun J2 h2 => ⟨⟨by omega, by omega⟩, fun w => h2 (by omega), fun w => ⟨by omega, by omega, by omega, ⟨by omega, by omega⟩, ⟨by omega, by omega⟩, fun u => h2 (by omega), fun u => ⟨by omega, by omega, ⟨by omega, by omega⟩, ⟨by omega, by omega⟩, fun u2 => h2 (by omega), fun u2 => ⟨by omega, ⟨by omega, by omega⟩, ⟨by omega, by omega⟩, fun u3 => h2 (by omega), fun u3 => tt (by omega)⟩⟩⟩⟩)
theorem ln_many {s : Rw} (hd : Dm s) {x : Ln} (hx : x ∈ LF s) : cI (fun n => stX s x n && vF s n) (s 9) = x.2.2.2.2.2 := by
  rcases LF_wf hd x hx with ⟨h1, h2, h3, h4, h5⟩ | ⟨h1, h2, h3, h4, h5, h6⟩
  · rw [h5]
    unfold cn
    refine cI_eq fun n _ _ => ?_
    rw [Bool.and_comm]
    congr 1
    unfold stX
    by_cases q : kd s n = x.2.1
    · rw [decide_eq_true q, Bool.true_and]
      by_cases z : x.2.2.2.1 ≤ cls s n ∧ cls s n ≤ x.2.2.2.2.1
      · rw [decide_eq_true z, decide_eq_true (by omega)]
      · rw [decide_eq_false z, decide_eq_false (by omega)]
    · rw [decide_eq_false q, Bool.false_and, decide_eq_false (by omega)]
  · rw [h6]
    by_cases q : x.1 = 2
    · rw [if_pos q]
      unfold gs
      refine cI_eq fun n _ _ => ?_
      rw [Bool.and_comm]
      congr 1
      unfold stX
      by_cases z : gp s (kd s n) = x.2.2.1
      · rw [decide_eq_true z, decide_eq_true (by omega)]
      · rw [decide_eq_false z, decide_eq_false (by omega)]
    · rw [if_neg q]
      refine cI_none fun n _ _ => ?_
      have : stX s x n = false := decide_eq_false (by omega)
      rw [this]; rfl
theorem ff_none {P : Int → Bool} : ∀ (n : Nat) (i : Int), (∀ k : Int, i ≤ k → k < i + n → P k = false) → ff P n i = -1
  | 0, _, _ => rfl
  | n + 1, i, h => by
    unfold ff
    rw [if_neg (by rw [h i (by omega) (by omega)]; decide)]
    exact ff_none n (i + 1) (fun k h1 h2 => h k (by omega) (by omega))
theorem ff_one {P : Int → Bool} {a : Int} (ha : P a = true) : ∀ (n : Nat) (i : Int), i ≤ a → a < i + n → (∀ k : Int, i ≤ k → k < a → P k = false) → ff P n i = a
  | 0, i, h1, h2, _ => by omega
  | n + 1, i, h1, h2, h => by
    unfold ff
    by_cases q : i = a
    · rw [q, if_pos ha]
    · rw [if_neg (by rw [h i (by omega) (by omega)]; decide)]
      exact ff_one ha n (i + 1) (by omega) (by omega) (fun k h1 h2 => h k (by omega) h2)
theorem st_uniq {s : Rw} (hd : Dm s) {n i j : Int} (i0 : 0 ≤ i) (i1 : i < (LF s).length) (j0 : 0 ≤ j) (j1 : j < (LF s).length) (pi : stX s (LnA (LF s) i) n = true) (pj : stX s (LnA (LF s) j) n = true) : i = j := by
  have h : cS s n (LF s) ≤ 1 := cS_Lns hd
  have := cS_one h (LnA_get i0 i1) (LnA_get j0 j1) pi pj
  omega
theorem lnF_of {s : Rw} (hd : Dm s) {n a : Int} (h : (a = -1 ∧ ∀ i : Int, 0 ≤ i → i < (LF s).length → (stX s (LnA (LF s) i) n && vF s n) = false) ∨ ((0 ≤ a ∧ a < (LF s).length) ∧ (stX s (LnA (LF s) a) n && vF s n) = true)) : lnF s (vF s) (LF s) n = a := by
  unfold lnF
  rcases h with ⟨e, h⟩ | ⟨ha, h⟩
  · split
    · rename_i q
      rw [e]
      refine ff_none _ _ fun k k0 k1 => ?_
      have := h k k0 (by omega)
      rw [q, Bool.and_true] at this
      exact this
    · exact e.symm
  · rw [Bool.and_eq_true] at h
    rw [if_pos h.2]
    refine ff_one (P := fun i => stX s (LnA (LF s) i) n) (a := a) h.1 ((LF s).length : Int).toNat 0 ha.1 (by omega) fun k k0 k1 => ?_
    cases q : stX s (LnA (LF s) k) n with
    | false => rfl
    | true =>
      have := st_uniq hd k0 (by omega) ha.1 ha.2 q h.1
      omega
theorem xF_box {s : Rw} : (xF s).1 = -1 ∨ (0 ≤ (xF s).1 ∧ (LF s).length ≠ 0) := by
  have e : xF s = bx s (LF s) := rfl
  rw [e]
  unfold bx
  split
  · exact Or.inl rfl
  · rename_i q
    refine Or.inr ⟨?_, q⟩
    show 0 ≤ (bc s _ _ 4).1
    have key : ∀ m : Nat, 0 ≤ (bc s (wdB s (LF s)) (htB s (LF s)) m).1 := by
      intro m
      induction m with
      | zero => exact Int.le_refl 0
      | succ m ih =>
        unfold bc
        split
        · show (0 : Int) ≤ m; omega
        · exact ih
    exact key 4
theorem xF_no {s : Rw} (h : (xF s).1 = -1) : (LF s).length = 0 ∧ xF s = (-1, -1, -1, -1, -1) := by
  rcases xF_box (s := s) with q | q
  · have e : xF s = bx s (LF s) := rfl
    by_cases z : (LF s).length = 0
    · refine ⟨z, ?_⟩
      rw [e]; unfold bx; rw [if_pos z]
    · exfalso
      rw [e] at h
      unfold bx at h
      rw [if_neg z] at h
      have key : ∀ m : Nat, 0 ≤ (bc s (wdB s (LF s)) (htB s (LF s)) m).1 := by
        intro m
        induction m with
        | zero => exact Int.le_refl 0
        | succ m ih =>
          unfold bc
          split
          · show (0 : Int) ≤ m; omega
          · exact ih
      have h2 : (bc s (wdB s (LF s)) (htB s (LF s)) 4).1 = -1 := h
      have := key 4
      omega
  · omega
