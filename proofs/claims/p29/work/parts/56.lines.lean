/-! ===== the law: the lines of a kind ===== -/
/-- a line as the law writes it -/
def cod (x : Ln) : Int := x.1 * 20000 + (x.2.1 + 1) * 1000 + (x.2.2.1 + 1) * 100 + (x.2.2.2.1 + 1) * 10 + (x.2.2.2.2.1 + 1)
/-- the first of the least sums of neighbours -/
def Bst (S : Fn) (n b : Int) : Prop := (0 ≤ b ∧ b < n) ∧ (∀ j : Int, 0 ≤ j → j < b → S b + S (b + 1) < S j + S (j + 1)) ∧ ∀ j : Int, b ≤ j → j < n → S b + S (b + 1) ≤ S j + S (j + 1)
theorem bst_ok (S : Fn) : ∀ m : Nat, Bst S (m + 1) (bst S m)
  | 0 => ⟨⟨Int.le_refl 0, by show (0 : Int) < 0 + 1; decide⟩, fun j j0 j1 => by have : j < 0 := j1; omega, fun j j0 j1 => by
      have : j = 0 := by have : (0 : Int) ≤ j := j0; omega
      subst this; exact Int.le_refl _⟩
  | m + 1 => by
    obtain ⟨h1, h2, h3⟩ := bst_ok S m
    unfold bst
    split
    · rename_i q
      refine ⟨by omega, fun j j0 j1 => ?_, fun j j0 j1 => ?_⟩
      · by_cases z : j < bst S m
        · have := h2 j j0 z
          have e : (m : Int) + 1 + 1 = m + 1 + 1 := rfl
          omega
        · have := h3 j (by omega) (by omega)
          omega
      · have : j = (m : Int) + 1 := by omega
        subst this; exact Int.le_refl _
    · rename_i q
      refine ⟨by omega, h2, fun j j0 j1 => ?_⟩
      by_cases z : j < (m : Int) + 1
      · exact h3 j j0 z
      · have : j = (m : Int) + 1 := by omega
        subst this
        omega
theorem Bst.eq {S : Fn} {n a b : Int} (ha : Bst S n a) (hb : Bst S n b) : a = b := by
  obtain ⟨a1, a2, a3⟩ := ha
  obtain ⟨b1, b2, b3⟩ := hb
  by_cases q : a = b
  · exact q
  · by_cases z : a < b
    · have := b2 a a1.1 z
      have := a3 b (by omega) b1.2
      omega
    · have := a2 b b1.1 (by omega)
      have := b3 a (by omega) a1.2
      omega
theorem bsI_Bst (S : Fn) {n : Int} (h : 1 ≤ n) : Bst S n (bsI S n) := by
  have := bst_ok S (n - 1).toNat
  have e : (((n - 1).toNat : Nat) : Int) + 1 = n := by omega
  rw [e] at this
  exact this
/-- the law's pairs of first and last classes -/
def RR (τ : St) (t : Tr) : Prop := ∀ j : Int, 0 ≤ j → j < t.1 → τ 166 (2 * j) = t.2.1 j ∧ τ 166 (2 * j + 1) = t.2.2.1 j
theorem TOK.two {s : Rw} {v : Int → Bool} {k : Int} {t : Tr} (h : TOK s v k t) {j : Int} (j0 : 0 ≤ j) (j1 : j + 1 < t.1) : cn s v k (t.2.1 j) (t.2.2.1 (j + 1)) = t.2.2.2 j + t.2.2.2 (j + 1) := by
  have c1 := h.2.2.1 j j0 (by omega)
  have c2 := h.2.2.1 (j + 1) (by omega) j1
  have c3 := h.2.2.2 j j0 j1
  rw [c1.2.2.2, c2.2.2.2]
  exact cn_add c1.2.1 c3.1 c2.2.1 c3.2
theorem sL_linesOf {at' k : Int} {s : Rw} {v : Int → Bool} {σ : St} {K : Int → St → Prop} (hr : RW σ s) (hs : SL s) (hv : Vs s v) (hx : σ 164 3 = (BSn v 12 : Nat)) (k0 : 0 ≤ k) (k1 : k < 4) (a0 : 10 ≤ at') (a1 : at' ≤ 58)
    (h : ∀ τ : St, (∀ c : Nat, c ≠ 164 → c ≠ 166 → τ c = σ c) → (∀ i : Int, i < at' ∨ at' + (rg s v k).1 ≤ i → τ 164 i = σ 164 i) → (∀ j : Int, 0 ≤ j → j < (rg s v k).1 → τ 164 (at' + j) = cod (0, k, gp s k, (rg s v k).2.1 j, (rg s v k).2.2.1 j, (rg s v k).2.2.2 j)) → K (rg s v k).1 τ) : f_L_linesOf at' k σ K := by
  have hd := hs.d
  have hn := hs.n
  have hS := hd.set
  have hk := hs.k k0 k1
  unfold f_L_linesOf
  intro s1 e1
  refine wl2s_inv (fun n c τ => (0 ≤ c ∧ c ≤ 6) ∧ n = (tkI (fun c => cn s v k c c) c).1 ∧ (∀ c : Nat, c ≠ 166 → τ c = σ c) ∧ RR τ (tkI (fun c => cn s v k c c) c)) (fun _ c _ => (6 - c).toNat) ?_ ⟨by decide, rfl, fun c hc => by rw [e1]; funext i; unfold zr; rw [if_neg hc], fun j j0 j1 => by have : j < 0 := j1; omega⟩
  rintro n c τ ag ⟨hc, en, tc, hR⟩ hag
  have tr : RW τ s := hr.go (tc _ (by decide)) (tc _ (by decide)) (tc _ (by decide))
  have tx : τ 164 3 = (BSn v 12 : Nat) := by rw [tc 164 (by decide)]; exact hx
  have hT := tk_ok (s := s) (v := v) (k := k) c.toNat (by omega)
  have hT1 : TOK s v k (tkI (fun c => cn s v k c c) c) := hT.1
  have hT2 : (tkI (fun c => cn s v k c c) c).1 ≤ c := by have := hT.2.1; unfold tkI; omega
  refine ⟨⟨by omega, by omega⟩, fun q => ?_, fun q => ?_⟩
  · have e6 : c = 6 := by omega
    subst e6
    clear hag ag hT hT2 e1 hc
    refine wl1s_inv (fun n τ => ∃ (f : Nat) (t : Tr), n = t.1 ∧ TOK s v k t ∧ jns (s 0) f t = rg s v k ∧ t.1 ≤ f + s 0 ∧ (∀ c : Nat, c ≠ 166 → τ c = σ c) ∧ RR τ t) (fun n _ => n.toNat) ?_ ⟨6, tkI (fun c => cn s v k c c) 6, en, hT1, rfl, by have := hT1.2.1; omega, tc, hR⟩
    clear en tc hR tr tx hT1
    rintro n τ ag ⟨f, t, en, hT, hj, hf, tc, hR⟩ hag
    subst en
    have tr : RW τ s := hr.go (tc _ (by decide)) (tc _ (by decide)) (tc _ (by decide))
    have tx : τ 164 3 = (BSn v 12 : Nat) := by rw [tc 164 (by decide)]; exact hx
    have t0 := hT.1
    have t6 := hT.2.1
    have e0 : τ 161 0 = s 0 := tr.g (by decide) (by decide)
    rw [e0]
    refine ⟨⟨by omega, by omega⟩, ⟨by omega, by omega⟩, fun q => ?_, fun q => ?_⟩
    · have et : t = rg s v k := by rw [← hj, jns_le q]
      clear hag ag hj hf
      refine wl1s_inv (fun i ρ => (0 ≤ i ∧ i ≤ t.1) ∧ (∀ c : Nat, c ≠ 164 → ρ c = τ c) ∧ (∀ j : Int, j < at' ∨ at' + i ≤ j → ρ 164 j = τ 164 j) ∧ ∀ j : Int, 0 ≤ j → j < i → ρ 164 (at' + j) = cod (0, k, gp s k, t.2.1 j, t.2.2.1 j, t.2.2.2 j)) (fun i _ => (t.1 - i).toNat) ?_ ⟨by omega, fun _ _ => rfl, fun _ _ => rfl, fun j j0 j1 => by omega⟩
      rintro i ρ ag ⟨hi, rc, ro, ri⟩ hag
      refine ⟨⟨by omega, by omega⟩, ⟨by omega, by omega⟩, fun z => ?_, fun z => ?_⟩
      · have ei : i = t.1 := by omega
        subst ei
        rw [et] at ro ri ⊢
        exact h ρ (fun c h1 h2 => by rw [rc c h1, tc c h2]) (fun i hi => by rw [ro i hi, tc 164 (by decide)]) ri
      · have rr := hR i hi.1 (by omega)
        have e2 : ρ 162 (8 * k + 1) = gp s k := by rw [rc 162 (by decide)]; exact (tr.d k0 k1).2.1
        rw [e2, rc 166 (by decide), rr.1, rr.2]
        refine ⟨by omega, by omega, by omega, sL_code ⟨by omega, fun s10 e10 => hag _ _ ⟨by omega, fun c hc => by rw [e10, up_c hc]; exact rc c hc, fun j hj => ?_, fun j j0 j1 => ?_⟩ (by omega)⟩⟩
        · rw [e10, up_i (by omega)]; exact ro j (by omega)
        · by_cases z2 : j = i
          · subst z2
            rw [e10, up_s]; rfl
          · rw [e10, up_i (by omega)]; exact ri j j0 (by omega)
    · intro x11 e11 x12 e12
      subst e11 e12
      have hsg : ∀ (j : Int) (Kx : Int → Prop), 0 ≤ j → j + 1 < t.1 → Kx (t.2.2.2 j + t.2.2.2 (j + 1)) → f_L_signs (τ 164 3) k (τ 166 (2 * j)) (τ 166 (2 * j + 3)) τ Kx := fun j Kx j0 j1 hK => by
        have r1 := hR j j0 (by omega)
        have r2 := hR (j + 1) (by omega) j1
        have e3 : 2 * j + 3 = 2 * (j + 1) + 1 := by omega
        have c1 := hT.2.2.1 j j0 (by omega)
        have c2 := hT.2.2.1 (j + 1) (by omega) j1
        rw [tx, e3, r1.1, r2.2]
        refine sL_signs tr hs hv ⟨by omega, by omega⟩ ⟨by omega, by omega⟩ ⟨by omega, by omega⟩ ?_
        rw [hT.two j0 j1]; exact hK
      have hsb : ∀ j : Int, 0 ≤ j → j + 1 < t.1 → 0 ≤ t.2.2.2 j + t.2.2.2 (j + 1) ∧ t.2.2.2 j + t.2.2.2 (j + 1) ≤ 40 := fun j j0 j1 => by
        rw [← hT.two j0 j1]; exact cn_bd hd v _ _ _
      refine wl2_inv (fun b j => (-1 ≤ j ∧ j < b ∧ b ≤ t.1 - 2) ∧ (∀ i : Int, j < i → i < b → t.2.2.2 b + t.2.2.2 (b + 1) < t.2.2.2 i + t.2.2.2 (i + 1)) ∧ ∀ i : Int, b ≤ i → i < t.1 - 1 → t.2.2.2 b + t.2.2.2 (b + 1) ≤ t.2.2.2 i + t.2.2.2 (i + 1)) (fun _ j => (j + 1).toNat) ?_ ⟨by omega, fun i i0 i1 => by omega, fun i i0 i1 => by
        have : i = t.1 - 2 := by omega
        subst this; exact Int.le_refl _⟩
      rintro b j ag85 ⟨hb, hb1, hb2⟩ hag85
      refine ⟨⟨by omega, by omega⟩, fun z => ?_, fun z => ?_⟩
      · have ej : j = -1 := by omega
        subst ej
        have eb : b = bsI t.2.2.2 (t.1 - 1) := Bst.eq (n := t.1 - 1) ⟨by omega, fun i i0 i1 => hb1 i (by omega) i1, hb2⟩ (bsI_Bst _ (by omega))
        clear hag85 ag85 hb1 hb2 hsg hsb
        refine ⟨by omega, by omega, fun s15 e15 x16 e16 => ?_⟩
        subst e16
        have rb := hR (b + 1) (by omega) (by omega)
        have e3 : 2 * b + 3 = 2 * (b + 1) + 1 := by omega
        rw [e3, rb.2] at e15
        refine wl1s_inv (fun i ρ => (b + 1 ≤ i ∧ i < t.1) ∧ (∀ c : Nat, c ≠ 166 → ρ c = τ c) ∧ (∀ j : Int, 0 ≤ j → j < i → ρ 166 (2 * j) = (jn t).2.1 j ∧ ρ 166 (2 * j + 1) = (jn t).2.2.1 j) ∧ ∀ j : Int, i ≤ j → j < t.1 → ρ 166 (2 * j) = t.2.1 j ∧ ρ 166 (2 * j + 1) = t.2.2.1 j) (fun i _ => (t.1 - i).toNat) ?_ ⟨by omega, fun c hc => by rw [e15, up_c hc], fun j j0 j1 => ?_, fun j j0 j1 => ?_⟩
        · rintro i ρ ag184 ⟨hi, rc, rn, ro⟩ hag184
          refine ⟨⟨by omega, by omega⟩, ⟨by omega, by omega⟩, fun z2 => ?_, fun z2 => ?_⟩
          · have ei : i = t.1 - 1 := by omega
            subst ei
            refine hag _ _ ⟨f - 1, jn t, by show t.1 + -1 = t.1 - 1; omega, jn_ok hT (by omega), ?_, ?_, fun c hc => by rw [rc c hc, tc c hc], fun j j0 j1 => ?_⟩ (by omega)
            · have ef : f = (f - 1) + 1 := by omega
              rw [ef] at hj
              unfold jns at hj
              rw [if_neg (by omega)] at hj
              exact hj
            · show t.1 - 1 ≤ _; omega
            · exact rn j j0 (by have : j < t.1 - 1 := j1; omega)
          · have r1 := ro (i + 1) (by omega) (by omega)
            have e4 : 2 * i + 2 = 2 * (i + 1) := by omega
            have e5 : 2 * i + 3 = 2 * (i + 1) + 1 := by omega
            rw [e4, e5, r1.1]
            refine ⟨by omega, by omega, fun s19 e19 => ⟨by omega, by omega, fun s20 e20 => hag184 _ _ ⟨by omega, fun c hc => by rw [e20, up_c hc, e19, up_c hc]; exact rc c hc, fun j j0 j1 => ?_, fun j j0 j1 => ?_⟩ (by omega)⟩⟩
            · have e6 : s19 166 (2 * (i + 1) + 1) = t.2.2.1 (i + 1) := by rw [e19, up_i (by omega)]; exact r1.2
              rw [e6] at e20
              by_cases z3 : j = i
              · subst z3
                rw [e20, up_s, up_i (by omega), e19, up_s]
                unfold jn
                dsimp only
                rw [← eb, if_neg (by omega), if_neg (by omega)]
                exact ⟨rfl, rfl⟩
              · rw [e20, up_i (by omega), up_i (by omega), e19, up_i (by omega), up_i (by omega)]
                exact rn j j0 (by omega)
            · rw [e20, up_i (by omega), up_i (by omega), e19, up_i (by omega), up_i (by omega)]
              exact ro j (by omega) j1
        · have rj := hR j j0 (by omega)
          unfold jn
          dsimp only
          rw [← eb]
          by_cases z3 : j = b
          · subst z3
            rw [e15, up_s, up_i (by omega), if_pos (Int.le_refl _), if_neg (Int.lt_irrefl _)]
            exact ⟨rj.1, rfl⟩
          · rw [e15, up_i (by omega), up_i (by omega), if_pos (by omega), if_pos (by omega)]
            exact rj
        · rw [e15, up_i (by omega), up_i (by omega)]
          exact hR j (by omega) j1
      · have s1 := hsb j (by omega) (by omega)
        have s2 := hsb b (by omega) (by omega)
        refine ⟨by omega, by omega, hsg j _ (by omega) (by omega) ⟨by omega, by omega, hsg b _ (by omega) (by omega) ⟨⟨by omega, by omega⟩, ⟨by omega, by omega⟩, fun w => ?_, fun w => ?_⟩⟩⟩
        · refine hag85 _ _ ⟨by omega, fun i i0 i1 => ?_, hb2⟩ (by omega)
          by_cases z3 : i = j
          · subst z3; omega
          · exact hb1 i (by omega) i1
        · refine hag85 _ _ ⟨by omega, fun i i0 i1 => by omega, fun i i0 i1 => ?_⟩ (by omega)
          by_cases z3 : i < b
          · by_cases z4 : i = j
            · subst z4; exact Int.le_refl _
            · have := hb1 i (by omega) z3; omega
          · have := hb2 i (by omega) i1; omega
  · rw [tx]
    refine sL_signs tr hs hv ⟨by omega, by omega⟩ ⟨by omega, by omega⟩ ⟨by omega, by omega⟩ ?_
    have hcb := cn_bd hd v k c c
    have hS := tkI_S (fun c => cn s v k c c) hc.1
    have hn0 := hT1.1
    refine ⟨⟨by omega, by omega⟩, fun z => ?_, fun z => ?_⟩
    · rw [if_neg (by omega)] at hS
      exact hag _ _ _ ⟨by omega, by rw [hS]; exact en, tc, by rw [hS]; exact hR⟩ (by omega)
    · rw [if_pos (by omega)] at hS
      refine ⟨by omega, fun s24 e24 => ⟨by omega, fun s25 e25 => hag _ _ _ ⟨by omega, by rw [hS, en], fun c hc => by rw [e25, up_c hc, e24, up_c hc]; exact tc c hc, ?_⟩ (by omega)⟩⟩
      rw [hS]
      intro j j0 j1
      replace j1 : j < (tkI (fun c => cn s v k c c) c).1 + 1 := j1
      show s25 166 (2 * j) = setF _ _ _ j ∧ s25 166 (2 * j + 1) = setF _ _ _ j
      by_cases z3 : j = n
      · rw [e25, up_i (by omega), z3, up_s, e24, up_s, ← en, setF_s, setF_s]
        exact ⟨rfl, rfl⟩
      · rw [e25, up_i (by omega), up_i (by omega), e24, up_i (by omega), up_i (by omega), setF_n (by omega), setF_n (by omega)]
        exact hR j j0 (by omega)
