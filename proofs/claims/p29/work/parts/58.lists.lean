/-! ===== the law: the lines of all kinds ===== -/
theorem sL_block {k : Int} {s : Rw} {v : Int → Bool} {σ : St} {K : Int → Prop} (hr : RW σ s) (hs : SL s) (k0 : 0 ≤ k) (k1 : k < 4) (h : K (blk s v k)) : f_L_block (BSn (isS s v) 4 : Nat) k σ K := by
  have hk := hs.k k0 k1
  have hb := key_bd hs k0 k1
  unfold f_L_block
  refine sL_key hr k0 k1 ?_
  refine wl2_inv (fun a i => ∃ m : Nat, i = m ∧ m ≤ 4 ∧ a = bkN s v k m) (fun _ i => (4 - i).toNat) ?_ ⟨0, rfl, by omega, rfl⟩
  rintro a i ag ⟨m, ei, hm, ea⟩ hag
  have hbk := (bkN_of s v k m).1
  have hbl : -1 ≤ bkN s v k m := by
    rcases (bkN_of s v k m).2.2 with z | ⟨o, o0, o1, _, _, _, z⟩
    · omega
    · have := key_bd hs o0 (by omega); omega
  refine ⟨⟨by omega, by omega⟩, fun q => ?_, fun q => ?_⟩
  · have : m = 4 := by omega
    subst this
    rw [ea]; exact h
  · have hmk := hs.k (k := i) (by omega) (by omega)
    have hmb := key_bd hs (k := i) (by omega) (by omega)
    have eS : bkN s v k (m + 1) = if (isS s v m = true ∧ 0 ≤ gp s k ∧ gp s m = gp s k) ∧ key s m < bkN s v k m then key s m else bkN s v k m := rfl
    rw [← ei] at eS
    have F : ¬ ((isS s v i = true ∧ 0 ≤ gp s k ∧ gp s i = gp s k) ∧ key s i < a) → ag a (i + 1) := fun z => by
      rw [ea] at z
      rw [if_neg z] at eS
      exact hag _ _ ⟨m + 1, by omega, by omega, by rw [eS]; exact ea⟩ (by omega)
    refine wj1_intro (fun x => x = b01 (decide (isS s v i = true ∧ 0 ≤ gp s k ∧ gp s i = gp s k))) (fun x hx => ?_) (fun J hJ => ?_)
    · refine sp3 hx (fun r => F fun z => (of_decide_eq_false r) z.1) (fun r => ?_)
      have r := of_decide_eq_true r
      refine sL_key hr (by omega) (by omega) ⟨by have : key s i = 4 * rk s i + i := rfl; constructor <;> omega, ⟨by omega, by omega⟩, fun z => F fun w => ?_, fun z => sL_key hr (by omega) (by omega) ?_⟩
      · have : key s i = 4 * rk s i + i := rfl
        omega
      · have e1 : key s i = 4 * rk s i + i := rfl
        rw [if_pos ⟨r, by omega⟩] at eS
        exact hag _ _ ⟨m + 1, by omega, by omega, by rw [eS]; exact e1.symm⟩ (by omega)
    · refine wj0_intro (¬ (isS s v i = true ∧ 0 ≤ gp s k ∧ gp s i = gp s k)) (fun z => hJ 0 (by rw [decide_eq_false z]; rfl)) (fun J2 h2 => ?_)
      rw [(hr.d k0 k1).2.1, (hr.d (by omega : 0 ≤ i) (by omega)).2.1]
      exact sp5 (bit_BS (by decide) (by omega) (by omega)) (fun r => h2 fun z => by rw [r] at z; exact absurd z.1 (by decide)) (fun r => ⟨by omega, ⟨by omega, by omega⟩, fun z => h2 fun w => by omega, fun z => ⟨by omega, by omega, ⟨by omega, by omega⟩, ⟨by omega, by omega⟩, fun w => h2 fun u => w u.2.2, fun w => hJ 1 (by rw [decide_eq_true ⟨r, by omega, Decidable.not_not.mp w⟩]; rfl)⟩⟩)
/-- the kinds met so far -/
def kin (s : Rw) (v : Int → Bool) (i : Int) (k : Int) : Bool := decide (0 < cI (fun j => v j && decide (kd s j = k)) i)
theorem kin_f {s : Rw} {v : Int → Bool} {i : Int} (i0 : 0 ≤ i) (h : v i = false) : kin s v (i + 1) = kin s v i := by
  funext k
  unfold kin
  rw [cI_S _ i0, h, Bool.false_and]
  simp only [b01, Int.add_zero]
theorem kin_t {s : Rw} {v : Int → Bool} {i : Int} (i0 : 0 ≤ i) (h : v i = true) {k : Int} : kin s v (i + 1) k = (kin s v i k || decide (kd s i = k)) := by
  unfold kin
  rw [cI_S _ i0, h, Bool.true_and]
  have c := (cI_bd (fun j => v j && decide (kd s j = k)) i0).1
  by_cases q : kd s i = k
  · rw [decide_eq_true q, Bool.or_true]
    exact decide_eq_true (by simp only [b01]; omega)
  · rw [decide_eq_false q, Bool.or_false]
    simp only [b01, Int.add_zero]
theorem kin_BS {s : Rw} {v : Int → Bool} {i : Int} (i0 : 0 ≤ i) (h : v i = true) (hk : 0 ≤ kd s i ∧ kd s i < 4) : bO (BSn (kin s v i) 4 : Nat) (bL 1 (kd s i)) = (BSn (kin s v (i + 1)) 4 : Nat) := by
  have e : ((kd s i).toNat : Int) = kd s i := by omega
  have h1 := BSn_12 (kin s v i) (m := 4) (by decide)
  have h2 : 2 ^ (kd s i).toNat < 2147483648 := Nat.lt_of_lt_of_le (Nat.pow_lt_pow_right (a := 2) (by decide) (by omega : (kd s i).toNat < 12)) (by decide)
  have h3 := bL_nat (kd s i).toNat (by omega)
  rw [e] at h3
  rw [h3, bO_nat (by omega) h2]
  congr 1
  refine BS_ext fun k => ?_
  rw [Nat.testBit_or, BSn_bit, kin_t i0 h, Nat.testBit_two_pow]
  by_cases q : k < 4
  · rw [decide_eq_true q, Bool.true_and, Bool.true_and]
    congr 1
    by_cases z : kd s i = k
    · rw [decide_eq_true z]; exact decide_eq_true (by omega)
    · rw [decide_eq_false z]; exact decide_eq_false (by omega)
  · rw [decide_eq_false q, Bool.false_and, Bool.false_and, Bool.false_or]
    exact decide_eq_false (by omega)
/-- lines as the law has them -/
def LX (σ : St) (L : List Ln) : Prop := σ 164 0 = L.length ∧ ∀ (i : Nat) (x : Ln), L[i]? = some x → σ 164 (10 + i) = cod x
theorem LX.add {σ τ : St} {L : List Ln} {x : Ln} (h : LX σ L) (e0 : τ 164 0 = L.length + 1) (e : ∀ i : Int, 10 ≤ i → i < 10 + L.length → τ 164 i = σ 164 i) (en : τ 164 (10 + (L.length : Int)) = cod x) : LX τ (L ++ [x]) := by
  refine ⟨by rw [e0, List.length_append]; rfl, fun i y hy => ?_⟩
  by_cases q : i < L.length
  · rw [List.getElem?_append_left q] at hy
    rw [e _ (by omega) (by omega)]; exact h.2 i y hy
  · have hi : i < (L ++ [x]).length := (List.getElem?_eq_some_iff.mp hy).1
    rw [List.length_append] at hi
    have e1 : i = L.length := by have : [x].length = 1 := rfl; omega
    subst e1
    rw [List.getElem?_append_right (Nat.le_refl _), Nat.sub_self] at hy
    cases hy
    exact en
theorem LX.app {σ τ : St} {L M : List Ln} (h : LX σ L) (e0 : τ 164 0 = L.length + M.length) (e : ∀ i : Int, 10 ≤ i → i < 10 + L.length → τ 164 i = σ 164 i) (en : ∀ (j : Nat) (x : Ln), M[j]? = some x → τ 164 (10 + (L.length : Int) + j) = cod x) : LX τ (L ++ M) := by
  refine ⟨by rw [e0, List.length_append]; omega, fun i y hy => ?_⟩
  by_cases q : i < L.length
  · rw [List.getElem?_append_left q] at hy
    rw [e _ (by omega) (by omega)]; exact h.2 i y hy
  · rw [List.getElem?_append_right (by omega)] at hy
    have := en _ y hy
    rw [show (10 : Int) + (L.length : Int) + ((i - L.length : Nat) : Int) = 10 + (i : Int) by omega] at this
    exact this
theorem KL_get {s : Rw} {v : Int → Bool} {k : Int} {j : Nat} {x : Ln} (h : (KL s v k)[j]? = some x) : (j : Int) < (rg s v k).1 ∧ x = (0, k, gp s k, (rg s v k).2.1 j, (rg s v k).2.2.1 j, (rg s v k).2.2.2 j) := by
  unfold KL KLn at h
  rw [List.getElem?_map] at h
  have hl : j < (rg s v k).1.toNat := by
    by_cases q : j < (rg s v k).1.toNat
    · exact q
    · rw [List.getElem?_eq_none (by rw [List.length_range]; omega)] at h
      exact absurd h (by simp)
  rw [List.getElem?_range hl] at h
  exact ⟨by omega, (Option.some.inj h).symm⟩
theorem see4 {s : Rw} {v : Int → Bool} (hs : SL s) (g : Int) : cI (fun k => decide (gp s k = g) && isS s v k) 4 = see s v g := by
  unfold see
  have e : cI (fun k => decide (gp s k = g) && isS s v k) 12 = cI (fun k => decide (k < 4) && (decide (gp s k = g) && isS s v k)) 12 := cI_eq fun k _ _ => by
    by_cases q : k < 4
    · rw [decide_eq_true q, Bool.true_and]
    · have : isS s v k = false := by
        cases z : isS s v k with
        | false => rfl
        | true => exact absurd (isS_lt hs z) q
      rw [this, Bool.and_false, Bool.and_false]
  rw [e, cI_lim (by decide) (by decide)]
theorem mem4 {s : Rw} (hs : SL s) {g : Int} (g0 : 0 ≤ g) : cI (fun k => decide (gp s k = g) && true) 4 = mem' s g := by
  unfold mem'
  have e : cI (fun k => decide (gp s k = g)) 12 = cI (fun k => decide (k < 4) && (decide (gp s k = g) && true)) 12 := cI_eq fun k _ k1 => by
    by_cases q : k < 4
    · rw [decide_eq_true q, Bool.true_and, Bool.and_true]
    · have := hs.hi (by omega) k1
      rw [decide_eq_false q, decide_eq_false (by omega)]; rfl
  rw [e, cI_lim (by decide) (by decide)]
theorem its_bd {s : Rw} (hs : SL s) {v : Int → Bool} {k : Int} (k0 : 0 ≤ k) (k1 : k < 4) : 0 ≤ its s v k ∧ its s v k ≤ 27027 := by
  have hb := key_bd hs k0 k1
  have h1 := (bkN_of s v k 4).1
  have h2 : 0 ≤ bkN s v k 4 := by
    rcases (bkN_of s v k 4).2.2 with z | ⟨o, o0, o1, _, _, _, z⟩
    · omega
    · have := key_bd hs o0 (by omega); omega
  unfold its blk
  omega
theorem its_inj {s : Rw} {v : Int → Bool} (hs : SL s) {a b : Int} (a0 : 0 ≤ a ∧ a < 4) (b0 : 0 ≤ b ∧ b < 4) (h : its s v a = its s v b) : a = b := by
  have h1 := key_bd hs a0.1 a0.2
  have h2 := key_bd hs b0.1 b0.2
  unfold its at h
  have h3 : key s a = key s b := by omega
  unfold key at h3
  omega
/-- what a round of the law's list changes -/
def FL (σ τ : St) : Prop := (∀ c : Nat, c ≠ 164 → c ≠ 166 → τ c = σ c) ∧ ∀ i : Int, i < 10 → i ≠ 0 → τ 164 i = σ 164 i
theorem sL_lists {s : Rw} {v : Int → Bool} {σ : St} {K : St → Prop} (hr : RW σ s) (hs : SL s) (hv : Vs s v) (hx : σ 164 3 = (BSn v 12 : Nat)) (h : ∀ τ : St, FL σ τ → LX τ (Lns s v) → K τ) : f_L_lists σ K := by
  have hd := hs.d
  have hn := hs.n
  have hl29 := Lns_len4 hs v
  unfold f_L_lists
  rw [hx]
  refine wl2_inv (fun a i => (0 ≤ i ∧ i ≤ 12) ∧ a = (BSn (kin s v i) 4 : Nat)) (fun _ i => (12 - i).toNat) ?_ ⟨by decide, by rw [show kin s v 0 = fun _ => false from funext fun k => rfl]; decide⟩
  rintro a i ag ⟨hi, ea⟩ hag
  refine ⟨⟨by omega, by omega⟩, fun q => ?_, fun q => ?_⟩
  rotate_left
  · refine sp5 (bit_BS (by decide) hi.1 (by omega)) (fun r => ?_) (fun r => ?_)
    · intro x ex
      refine hag _ _ ⟨by omega, ?_⟩ (by omega)
      rw [ex, ea, kin_f hi.1 r]
      have e0 : bO (BSn (kin s v i) 4 : Nat) 0 = bO (BSn (kin s v i) 4 : Nat) ((0 : Nat) : Int) := rfl
      have h1 := BSn_12 (kin s v i) (m := 4) (by decide)
      rw [e0, bO_nat (by omega) (by decide), Nat.or_zero]
    · have il := hv i r
      have hk := hs.kd hi.1 il
      rw [(hr.e hi.1 il).1]
      refine ⟨by omega, fun x ex => hag _ _ ⟨by omega, ?_⟩ (by omega)⟩
      rw [ex, ea, kin_BS hi.1 r (by omega)]
  · have e12 : i = 12 := by omega
    subst e12
    have ekin : kin s v 12 = isS s v := by
      funext k
      unfold kin isS tot
      rw [cI_vs (s := s) (v := fun j => v j && decide (kd s j = k)) (fun j hj => hv j (by rw [Bool.and_eq_true] at hj; exact hj.1)) hn.1 hn.2]
    rw [ekin] at ea
    subst ea
    clear hag ag q hi ekin
    intro s3 e3
    have r3 : RW s3 s := hr.go (by rw [e3, up_c (by decide)]) (by rw [e3, up_c (by decide)]) (by rw [e3, up_c (by decide)])
    refine sL_bits4 ?_
    have emany : cI (isS s v) 4 = (Fo s v).length := by
      have hso := Fo_sorted (v := v) hs
      have hnd : (Fo s v).Nodup := hso.imp (fun {a b} z e => by rw [e] at z; exact Int.lt_irrefl _ z)
      have key : ∀ m : Nat, m ≤ 4 → cN (isS s v) m = (((Fo s v).filter (fun k => decide (k < (m : Int)))).length : Nat) := by
        intro m
        induction m with
        | zero =>
          intro _
          have : (Fo s v).filter (fun k => decide (k < ((0 : Nat) : Int))) = [] := by
            rw [List.filter_eq_nil_iff]
            intro k hk z
            have := Od_lt hs (Fo_mem.mp hk)
            have := of_decide_eq_true z
            omega
          rw [this]; rfl
        | succ m ih =>
          intro hm
          have ih := ih (by omega)
          show cN (isS s v) m + b01 (isS s v m) = _
          rw [ih]
          have sp : ∀ (A : List Int), A.Nodup → (A.filter (fun k => decide (k < ((m + 1 : Nat) : Int)))).length = (A.filter (fun k => decide (k < (m : Int)))).length + (if (m : Int) ∈ A then 1 else 0) := by
            intro A
            induction A with
            | nil => intro _; rfl
            | cons x A ihA =>
              intro hA
              rw [List.nodup_cons] at hA
              have := ihA hA.2
              rw [List.filter_cons, List.filter_cons]
              by_cases z : x = m
              · subst z
                rw [if_pos (by rw [decide_eq_true (by omega)]), if_neg (by rw [decide_eq_false (by omega)]; decide), List.length_cons, this, if_neg hA.1, if_pos List.mem_cons_self]
              · have em : ((m : Int) ∈ x :: A) ↔ ((m : Int) ∈ A) := by rw [List.mem_cons]; exact ⟨fun w => w.elim (fun u => absurd u.symm z) id, Or.inr⟩
                by_cases z2 : x < (m : Int)
                · rw [if_pos (by rw [decide_eq_true (by omega)]), if_pos (by rw [decide_eq_true z2]), List.length_cons, List.length_cons, this]
                  simp only [em]; omega
                · rw [if_neg (by rw [decide_eq_false (by omega)]; decide), if_neg (by rw [decide_eq_false z2]; decide), this]
                  simp only [em]
          rw [sp _ hnd]
          cases z : isS s v m with
          | true =>
            have : (m : Int) ∈ Fo s v := Fo_mem.mpr (Od_of (by omega) (by omega) z)
            rw [if_pos this]; rfl
          | false =>
            have : ¬ (m : Int) ∈ Fo s v := fun w => by
              have := (Od_lt hs (Fo_mem.mp w)).2
              rw [z] at this; exact absurd this (by decide)
            rw [if_neg this]; rfl
      have := key 4 (Nat.le_refl _)
      have e : (Fo s v).filter (fun k => decide (k < ((4 : Nat) : Int))) = Fo s v := List.filter_eq_self.mpr fun k hk => decide_eq_true (Od_lt hs (Fo_mem.mp hk)).1.2
      rw [e] at this
      exact this
    have hlen4 : (Fo s v).length ≤ 4 := by
      have := cI_bd (isS s v) (i := 4) (by decide)
      omega
    rw [emany]
    refine wl3s_invB 5 (fun l g n τ => ∃ (L0 : List Ln) (R : List Int), n = R.length ∧ L0 ++ emL s v R g = Lns s v ∧ R.Pairwise (fun a b => its s v a < its s v b) ∧ (∀ y ∈ R, y ∈ Od s v ∧ l < its s v y) ∧ (∀ y ∈ Od s v, y ∉ R → its s v y ≤ l) ∧ FL σ τ ∧ LX τ L0 ∧ (-1 ≤ l ∧ l ≤ 27027) ∧ (-1 ≤ g ∧ g ≤ 2) ∧ R.length ≤ 4) (fun _ _ n _ => n.toNat) ?_ ⟨[], Fo s v, rfl, emL_Lns hs, Fo_sorted hs, fun y hy => ⟨Fo_mem.mp hy, ?_⟩, fun y hy hn => absurd (Fo_mem.mpr hy) hn, ⟨fun c h1 _ => by rw [e3, up_c h1], fun i _ i2 => by rw [e3, up_i i2]⟩, ⟨by rw [e3, up_s]; rfl, fun i x hx => by simp at hx⟩, by decide, by decide, hlen4⟩ (by omega)
    rotate_left
    · have h1 := Od_lt hs (Fo_mem.mp hy)
      have := its_bd hs (v := v) h1.1.1 h1.1.2
      omega
    rintro l g n τ ag ⟨L0, R, en, eL, hso, hR, hnR, hF, hL, hlb, hgb, hR4⟩ hag
    have tr : RW τ s := hr.go (hF.1 _ (by decide) (by decide)) (hF.1 _ (by decide) (by decide)) (hF.1 _ (by decide) (by decide))
    refine ⟨⟨by omega, by omega⟩, fun q => ?_, fun q => ?_⟩
    · have : R = [] := by
        cases R with
        | nil => rfl
        | cons a r => rw [List.length_cons] at en; omega
      subst this
      have e : L0 = Lns s v := by rw [← eL]; show L0 = L0 ++ []; rw [List.append_nil]
      rw [e] at hL
      exact h τ hF hL
    · cases R with
      | nil => exact absurd (show n ≤ 0 by rw [en]; decide) q
      | cons k r =>
        have hkR := hR k List.mem_cons_self
        have hk := Od_lt hs hkR.1
        have hkk := hs.k hk.1.1 hk.1.2
        have hpc := List.pairwise_cons.mp hso
        -- the least of those above
        refine wl3_inv (fun b m i => (0 ≤ i ∧ i ≤ 4) ∧ ((b = -1 ∧ ∀ j : Int, 0 ≤ j → j < i → ¬ (isS s v j = true ∧ l < its s v j)) ∨ ((0 ≤ b ∧ b < i) ∧ isS s v b = true ∧ l < its s v b ∧ m = its s v b ∧ ∀ j : Int, 0 ≤ j → j < i → isS s v j = true → l < its s v j → its s v b ≤ its s v j))) (fun _ _ i => (4 - i).toNat) ?_ ⟨by decide, Or.inl ⟨rfl, fun j j0 j1 => by omega⟩⟩
        rintro b m i ag79 ⟨hi, hb⟩ hag79
        refine ⟨⟨by omega, by omega⟩, fun z => ?_, fun z => ?_⟩
        rotate_left
        · have hib := its_bd hs (v := v) hi.1 (by omega)
          have hm : -1 ≤ b ∧ b < 4 ∧ (0 ≤ b → Rg m) := by
            rcases hb with ⟨e, _⟩ | ⟨e1, _, _, e2, _⟩
            · exact ⟨by omega, by omega, fun w => by omega⟩
            · have := its_bd hs (v := v) e1.1 (by omega)
              exact ⟨by omega, by omega, fun _ => ⟨by omega, by omega⟩⟩
          have skip : ¬ (isS s v i = true ∧ l < its s v i) → ag79 b m (i + 1) := fun w => by
            refine hag79 _ _ _ ⟨by omega, ?_⟩ (by omega)
            rcases hb with ⟨e, e2⟩ | ⟨e1, e2, e3, e4, e5⟩
            · refine Or.inl ⟨e, fun j j0 j1 => ?_⟩
              by_cases u : j = i
              · rw [u]; exact w
              · exact e2 j j0 (by omega)
            · refine Or.inr ⟨by omega, e2, e3, e4, fun j j0 j1 j2 j3 => ?_⟩
              by_cases u : j = i
              · rw [u] at j2 j3; exact absurd ⟨j2, j3⟩ w
              · exact e5 j j0 (by omega) j2 j3
          have take : isS s v i = true → l < its s v i → (0 ≤ b → its s v i < m) → ag79 i (its s v i) (i + 1) := fun w1 w2 w3 => by
            refine hag79 _ _ _ ⟨by omega, Or.inr ⟨by omega, w1, w2, rfl, fun j j0 j1 j2 j3 => ?_⟩⟩ (by omega)
            by_cases u : j = i
            · rw [u]; exact Int.le_refl _
            · rcases hb with ⟨_, e2⟩ | ⟨e1, e2, e3, e4, e5⟩
              · exact absurd ⟨j2, j3⟩ (e2 j j0 (by omega))
              · have := e5 j j0 (by omega) j2 j3
                have := w3 e1.1
                omega
          refine sL_block tr hs hi.1 (by omega) (sL_key tr hi.1 (by omega) ?_)
          intro x33 e33
          have e33 : x33 = its s v i := e33
          subst e33
          refine sp5 (bit_BS (by decide) hi.1 (by omega)) (fun u => skip fun w => by rw [u] at w; exact absurd w.1 (by decide)) (fun u => ⟨⟨by omega, by omega⟩, ⟨by omega, by omega⟩, fun w => skip fun y => by omega, fun w => ⟨⟨by omega, by omega⟩, fun y => take u (by omega) (fun y2 => by omega), fun y => ⟨⟨by omega, by omega⟩, hm.2.2 (by omega), fun x => ?_, fun x => take u (by omega) (fun _ => by omega)⟩⟩⟩)
          rcases hb with ⟨e, _⟩ | ⟨e1, e2, e3, e4, e5⟩
          · omega
          · refine hag79 _ _ _ ⟨by omega, Or.inr ⟨by omega, e2, e3, e4, fun j j0 j1 j2 j3 => ?_⟩⟩ (by omega)
            by_cases u2 : j = i
            · rw [u2]; omega
            · exact e5 j j0 (by omega) j2 j3
        · have e4 : i = 4 := by omega
          subst e4
          have hbk : b = k ∧ m = its s v k := by
            rcases hb with ⟨e, e2⟩ | ⟨e1, e2, e3, e4, e5⟩
            · exact absurd ⟨hk.2, hkR.2⟩ (e2 k hk.1.1 hk.1.2)
            · have h1 := e5 k hk.1.1 hk.1.2 hk.2 hkR.2
              have h2 : b ∈ k :: r := Classical.byContradiction fun w => by
                have := hnR b (Od_of e1.1 e1.2 e2) w
                omega
              rcases List.mem_cons.mp h2 with u | u
              · exact ⟨u, by rw [e4, u]⟩
              · have := hpc.1 b u
                omega
          obtain ⟨e1, e2⟩ := hbk
          subst e1 e2
          clear hb hag79 ag79 z
          rw [(tr.d hk.1.1 hk.1.2).2.1]
          refine ⟨by omega, fun x12 e12 => ?_⟩
          subst e12
          have hlast := its_bd hs (v := v) hk.1.1 hk.1.2
          have next : ∀ (τ2 : St) (L1 : List Ln), L1 ++ emL s v r (gp s b) = Lns s v → FL σ τ2 → LX τ2 L1 → ag (its s v b) (gp s b) (n + -1) τ2 := fun τ2 L1 w1 w2 w3 => by
            refine hag _ _ _ _ ⟨L1, r, by rw [en, List.length_cons]; omega, w1, hpc.2, fun y hy => ⟨(hR y (List.mem_cons_of_mem _ hy)).1, hpc.1 y hy⟩, fun y hy hny => ?_, w2, w3, by omega, hkk.2, by rw [List.length_cons] at hR4; omega⟩ (by omega)
            by_cases u : y = b
            · rw [u]; exact Int.le_refl _
            · have := hnR y hy (fun w => by rcases List.mem_cons.mp w with w | w; exact u w; exact hny w)
              have := hkR.2
              omega
          have eL2 : (L0 ++ (if 1 < thr s v b ∧ gp s b ≠ g then [hd1 s v b] else [])) ++ ((if jnd s v b = true then [] else KL s v b) ++ emL s v r (gp s b)) = Lns s v := by
            rw [← eL]
            show _ = L0 ++ (((if 1 < thr s v b ∧ gp s b ≠ g then [hd1 s v b] else []) ++ (if jnd s v b = true then [] else KL s v b)) ++ emL s v r (gp s b))
            simp only [List.append_assoc]
          have hlenL : (L0 ++ (if 1 < thr s v b ∧ gp s b ≠ g then [hd1 s v b] else [])).length ≤ 29 := by
            have := congrArg List.length eL2
            rw [List.length_append] at this
            omega
          have hL0 : L0.length ≤ 29 := by rw [List.length_append] at hlenL; omega
          have sb := cI_bd (fun k => decide (gp s k = gp s b) && isS s v k) (i := 12) (by decide)
          have thb : 0 ≤ thr s v b ∧ thr s v b ≤ 12 := by
            unfold thr
            split
            · decide
            · exact sb
          refine wj1_intro (fun y => y = thr s v b) (fun y hy => ?_) (fun J hJ => ?_)
          · subst hy
            refine wj1_intro (fun y => y = b01 (jnd s v b)) (fun y hy => ?_) (fun J hJ => ?_)
            · refine wj0s_intro (fun τ2 => FL σ τ2 ∧ LX τ2 (L0 ++ (if 1 < thr s v b ∧ gp s b ≠ g then [hd1 s v b] else []))) (fun τ2 => ?_) (fun J hJ => ?_)
              · rintro ⟨w2, w3⟩
                have t2r : RW τ2 s := hr.go (w2.1 _ (by decide) (by decide)) (w2.1 _ (by decide) (by decide)) (w2.1 _ (by decide) (by decide))
                generalize L0 ++ (if 1 < thr s v b ∧ gp s b ≠ g then [hd1 s v b] else []) = L1 at eL2 hlenL w3
                refine sp3 hy (fun u => ?_) (fun u => ?_)
                · rw [u, if_neg (by decide)] at eL2
                  rw [w3.1]
                  have hrg := rg_ok hd v b
                  refine sL_linesOf (v := v) t2r hs hv (by rw [w2.2 3 (by decide) (by decide)]; exact hx) hk.1.1 hk.1.2 (by omega) (by omega) fun ρ pc po pn => ?_
                  intro s29 e29
                  have g1 := hrg.1
                  have g6 := hrg.2.1
                  refine next _ (L1 ++ KL s v b) (by rw [← eL2]; simp only [List.append_assoc]) ⟨fun c h1 h2 => by rw [e29, up_c h1, pc c h1 h2]; exact w2.1 c h1 h2, fun i i1 i2 => by rw [e29, up_i i2, po i (by omega)]; exact w2.2 i i1 i2⟩ (w3.app ?_ (fun i i1 i2 => by rw [e29, up_i (by omega)]; exact po i (by omega)) (fun j x hx => ?_))
                  · rw [e29, up_s]
                    have : (KL s v b).length = (rg s v b).1.toNat := by unfold KL; rw [KLn_len]
                    omega
                  · have hg := KL_get hx
                    rw [e29, up_i (by omega), pn j (by omega) hg.1, hg.2]
                · rw [u, if_pos rfl] at eL2
                  intro s30 e30
                  refine next _ L1 (by rw [← eL2]; rfl) ⟨fun c h1 h2 => by rw [e30, up_c h1]; exact w2.1 c h1 h2, fun i i1 i2 => by rw [e30, up_i i2]; exact w2.2 i i1 i2⟩ ⟨by rw [e30, up_s, Int.add_zero]; exact w3.1, fun i x hx => by rw [e30, up_i (by omega)]; exact w3.2 i x hx⟩
              · have none : ¬ (1 < thr s v b ∧ gp s b ≠ g) → J τ := fun w => hJ _ ⟨hF, by rw [if_neg w, List.append_nil]; exact hL⟩
                refine ⟨⟨by omega, by omega⟩, fun u => none (by omega), fun u => ⟨⟨by omega, by omega⟩, ⟨by omega, by omega⟩, fun w => none (fun x => x.2 w), fun w => ?_⟩⟩
                have hh : 1 < thr s v b ∧ gp s b ≠ g := ⟨by omega, w⟩
                refine wj1_intro (fun x => x = (hd1 s v b).1) (fun x hx2 => ?_) (fun J2 h2 => sp3 hy (fun r => h2 _ (by unfold hd1; rw [r]; rfl)) (fun r => h2 _ (by unfold hd1; rw [r]; rfl)))
                refine sL_code ?_
                rw [hL.1]
                refine ⟨by omega, fun s24 e24 s25 e25 => hJ _ ⟨⟨fun c h1 h2 => by rw [e25, up_c h1, e24, up_c h1]; exact hF.1 c h1 h2, fun i i1 i2 => by rw [e25, up_i i2, e24, up_i (by omega)]; exact hF.2 i i1 i2⟩, ?_⟩⟩
                rw [if_pos hh]
                refine hL.add ?_ (fun i i1 i2 => by rw [e25, up_i (by omega), e24, up_i (by omega)]) ?_
                · rw [e25, up_s, e24, up_i (by omega), hL.1]
                · rw [e25, up_i (by omega), e24, up_s, hx2]
                  unfold cod hd1
                  cases jnd s v b <;> rfl
            · -- joined or not
              have gw := hd.way
              refine wj0_intro (jnd s v b = false) (fun w => hJ 0 (by rw [w]; rfl)) (fun J2 h2 => ⟨⟨by omega, by omega⟩, fun w => h2 (by unfold jnd; rw [decide_eq_false (by omega), Bool.false_and]), fun w => ?_⟩)
              have et : thr s v b = see s v (gp s b) := by unfold thr; rw [if_neg w]
              have ej : jnd s v b = jd s v (gp s b) := by unfold jnd; rw [decide_eq_true (by omega), Bool.true_and]
              have hgw := gw (gp s b) (by omega) (by omega)
              have mb := cI_bd (fun k => decide (gp s k = gp s b)) (i := 12) (by decide)
              rw [et] at thb ⊢
              refine ⟨⟨by omega, by omega⟩, fun u => h2 (by rw [ej]; exact decide_eq_false (by omega)), fun u => ⟨by omega, ?_⟩⟩
              rw [tr.g (by omega) (by omega)]
              refine ⟨⟨by omega, by omega⟩, fun x => h2 (by rw [ej]; exact decide_eq_false (fun z => x z.1)), fun x => ?_⟩
              have e15 : (15 : Int) = (BSn (fun _ => true) 4 : Nat) := by decide
              rw [e15]
              refine sL_member tr hs ⟨by omega, by omega⟩ ?_
              rw [mem4 hs (by omega)]
              have em : mem' s (gp s b) = cI (fun k => decide (gp s k = gp s b)) 12 := rfl
              refine ⟨⟨by omega, by omega⟩, ⟨by omega, by omega⟩, fun y => h2 (by rw [ej]; exact decide_eq_false (fun z => y z.2.2)), fun y => hJ 1 ?_⟩
              rw [ej]
              have : jd s v (gp s b) = true := decide_eq_true ⟨Decidable.not_not.mp x, by omega, Decidable.not_not.mp y⟩
              rw [this]; rfl
          · refine ⟨⟨by omega, by omega⟩, fun w => sL_member tr hs ⟨by omega, by omega⟩ (hJ _ ?_), fun w => hJ _ ?_⟩
            · rw [see4 hs]; unfold thr; rw [if_neg (by omega)]
            · unfold thr; rw [if_pos (by omega)]
